section
-- ===== PART A: goes FIRST, ahead of the names: the tables' words, and 'selects' of the private methods out of them =====
/-- a private method of a class that the tables say can be made, by its rows of tables_1 -/
def lw_okq (q : MethodName × Nat) : Prop := (q.1.cls ≠ "java/lang/invoke/MethodHandle" ∧ q.1.cls ≠ "java/lang/invoke/VarHandle") ∧ Cond.instantiable q.1.cls q.2 ∈ tables_1 ∧ Cond.privateMethod q.1 ∈ tables_1 ∧ Cond.instanceMethod q.1 ∈ tables_1
theorem lw_p0 : lw_okq (⟨"SearchGrids", "isCell", "(I)Z"⟩, 12) := ⟨⟨by decide +kernel, by decide +kernel⟩, List.mem_of_getElem? (i := 8) (by decide +kernel), List.mem_of_getElem? (i := 165) (by decide +kernel), List.mem_of_getElem? (i := 166) (by decide +kernel)⟩
theorem lw_p1 : lw_okq (⟨"SearchGrids", "tellOf", "(I)I"⟩, 12) := ⟨⟨by decide +kernel, by decide +kernel⟩, List.mem_of_getElem? (i := 8) (by decide +kernel), List.mem_of_getElem? (i := 170) (by decide +kernel), List.mem_of_getElem? (i := 171) (by decide +kernel)⟩
theorem lw_p2 : lw_okq (⟨"SearchGrids", "placeOf", "(I)I"⟩, 12) := ⟨⟨by decide +kernel, by decide +kernel⟩, List.mem_of_getElem? (i := 8) (by decide +kernel), List.mem_of_getElem? (i := 174) (by decide +kernel), List.mem_of_getElem? (i := 175) (by decide +kernel)⟩
theorem lw_p3 : lw_okq (⟨"SearchGrids", "dropPlan", "()V"⟩, 12) := ⟨⟨by decide +kernel, by decide +kernel⟩, List.mem_of_getElem? (i := 8) (by decide +kernel), List.mem_of_getElem? (i := 178) (by decide +kernel), List.mem_of_getElem? (i := 179) (by decide +kernel)⟩
theorem lw_p4 : lw_okq (⟨"SearchGrids", "allCounts", "()J"⟩, 12) := ⟨⟨by decide +kernel, by decide +kernel⟩, List.mem_of_getElem? (i := 8) (by decide +kernel), List.mem_of_getElem? (i := 196) (by decide +kernel), List.mem_of_getElem? (i := 197) (by decide +kernel)⟩
theorem lw_p5 : lw_okq (⟨"SearchGrids$Looker", "begin", "(I)V"⟩, 5) := ⟨⟨by decide +kernel, by decide +kernel⟩, List.mem_of_getElem? (i := 63) (by decide +kernel), List.mem_of_getElem? (i := 205) (by decide +kernel), List.mem_of_getElem? (i := 206) (by decide +kernel)⟩
theorem lw_p6 : lw_okq (⟨"SearchGrids", "isLooker", "(I)Z"⟩, 12) := ⟨⟨by decide +kernel, by decide +kernel⟩, List.mem_of_getElem? (i := 8) (by decide +kernel), List.mem_of_getElem? (i := 213) (by decide +kernel), List.mem_of_getElem? (i := 214) (by decide +kernel)⟩
theorem lw_p7 : lw_okq (⟨"SearchGrids$Looker", "takeAway", "(II)V"⟩, 5) := ⟨⟨by decide +kernel, by decide +kernel⟩, List.mem_of_getElem? (i := 63) (by decide +kernel), List.mem_of_getElem? (i := 218) (by decide +kernel), List.mem_of_getElem? (i := 219) (by decide +kernel)⟩
theorem lw_p8 : lw_okq (⟨"SearchGrids$Cell", "reckonGains", "([I)V"⟩, 9) := ⟨⟨by decide +kernel, by decide +kernel⟩, List.mem_of_getElem? (i := 18) (by decide +kernel), List.mem_of_getElem? (i := 230) (by decide +kernel), List.mem_of_getElem? (i := 231) (by decide +kernel)⟩
theorem lw_p9 : lw_okq (⟨"SearchGrids$Cell", "finds", "([I[I)J"⟩, 9) := ⟨⟨by decide +kernel, by decide +kernel⟩, List.mem_of_getElem? (i := 18) (by decide +kernel), List.mem_of_getElem? (i := 234) (by decide +kernel), List.mem_of_getElem? (i := 235) (by decide +kernel)⟩
theorem lw_p10 : lw_okq (⟨"SearchGrids$Cell", "weight", "()J"⟩, 9) := ⟨⟨by decide +kernel, by decide +kernel⟩, List.mem_of_getElem? (i := 18) (by decide +kernel), List.mem_of_getElem? (i := 238) (by decide +kernel), List.mem_of_getElem? (i := 239) (by decide +kernel)⟩
theorem lw_p11 : lw_okq (⟨"SearchGrids$Cell", "missed", "([I[I)J"⟩, 9) := ⟨⟨by decide +kernel, by decide +kernel⟩, List.mem_of_getElem? (i := 18) (by decide +kernel), List.mem_of_getElem? (i := 243) (by decide +kernel), List.mem_of_getElem? (i := 244) (by decide +kernel)⟩
theorem lw_p12 : lw_okq (⟨"SearchGrids$Cell", "missedBy", "(II)J"⟩, 9) := ⟨⟨by decide +kernel, by decide +kernel⟩, List.mem_of_getElem? (i := 18) (by decide +kernel), List.mem_of_getElem? (i := 247) (by decide +kernel), List.mem_of_getElem? (i := 248) (by decide +kernel)⟩
theorem lw_p13 : lw_okq (⟨"SearchGrids", "giveBestHour", "()Z"⟩, 12) := ⟨⟨by decide +kernel, by decide +kernel⟩, List.mem_of_getElem? (i := 8) (by decide +kernel), List.mem_of_getElem? (i := 254) (by decide +kernel), List.mem_of_getElem? (i := 255) (by decide +kernel)⟩
theorem lw_p14 : lw_okq (⟨"SearchGrids", "plannedHours", "()I"⟩, 12) := ⟨⟨by decide +kernel, by decide +kernel⟩, List.mem_of_getElem? (i := 8) (by decide +kernel), List.mem_of_getElem? (i := 266) (by decide +kernel), List.mem_of_getElem? (i := 267) (by decide +kernel)⟩
theorem lw_p15 : lw_okq (⟨"SearchGrids", "plannedFinds", "()J"⟩, 12) := ⟨⟨by decide +kernel, by decide +kernel⟩, List.mem_of_getElem? (i := 8) (by decide +kernel), List.mem_of_getElem? (i := 270) (by decide +kernel), List.mem_of_getElem? (i := 271) (by decide +kernel)⟩
def lw_privs_1 : List (MethodName × Nat) := [(⟨"SearchGrids", "isCell", "(I)Z"⟩, 12), (⟨"SearchGrids", "tellOf", "(I)I"⟩, 12), (⟨"SearchGrids", "placeOf", "(I)I"⟩, 12), (⟨"SearchGrids", "dropPlan", "()V"⟩, 12), (⟨"SearchGrids", "allCounts", "()J"⟩, 12), (⟨"SearchGrids$Looker", "begin", "(I)V"⟩, 5), (⟨"SearchGrids", "isLooker", "(I)Z"⟩, 12), (⟨"SearchGrids$Looker", "takeAway", "(II)V"⟩, 5), (⟨"SearchGrids$Cell", "reckonGains", "([I)V"⟩, 9), (⟨"SearchGrids$Cell", "finds", "([I[I)J"⟩, 9), (⟨"SearchGrids$Cell", "weight", "()J"⟩, 9), (⟨"SearchGrids$Cell", "missed", "([I[I)J"⟩, 9), (⟨"SearchGrids$Cell", "missedBy", "(II)J"⟩, 9), (⟨"SearchGrids", "giveBestHour", "()Z"⟩, 12), (⟨"SearchGrids", "plannedHours", "()I"⟩, 12), (⟨"SearchGrids", "plannedFinds", "()J"⟩, 12)]
theorem lw_r1 : ∀ q ∈ lw_privs_1, lw_okq q := List.forall_mem_cons.mpr ⟨lw_p0, List.forall_mem_cons.mpr ⟨lw_p1, List.forall_mem_cons.mpr ⟨lw_p2, List.forall_mem_cons.mpr ⟨lw_p3, List.forall_mem_cons.mpr ⟨lw_p4, List.forall_mem_cons.mpr ⟨lw_p5, List.forall_mem_cons.mpr ⟨lw_p6, List.forall_mem_cons.mpr ⟨lw_p7, List.forall_mem_cons.mpr ⟨lw_p8, List.forall_mem_cons.mpr ⟨lw_p9, List.forall_mem_cons.mpr ⟨lw_p10, List.forall_mem_cons.mpr ⟨lw_p11, List.forall_mem_cons.mpr ⟨lw_p12, List.forall_mem_cons.mpr ⟨lw_p13, List.forall_mem_cons.mpr ⟨lw_p14, List.forall_mem_cons.mpr ⟨lw_p15, fun _ h => absurd h List.not_mem_nil⟩⟩⟩⟩⟩⟩⟩⟩⟩⟩⟩⟩⟩⟩⟩⟩
theorem lw_p16 : lw_okq (⟨"SearchGrids", "isOutdone", "(IIIJJ)Z"⟩, 12) := ⟨⟨by decide +kernel, by decide +kernel⟩, List.mem_of_getElem? (i := 8) (by decide +kernel), List.mem_of_getElem? (i := 275) (by decide +kernel), List.mem_of_getElem? (i := 276) (by decide +kernel)⟩
theorem lw_p17 : lw_okq (⟨"SearchGrids$LookLog", "add", "(IIIJ)I"⟩, 6) := ⟨⟨by decide +kernel, by decide +kernel⟩, List.mem_of_getElem? (i := 87) (by decide +kernel), List.mem_of_getElem? (i := 284) (by decide +kernel), List.mem_of_getElem? (i := 285) (by decide +kernel)⟩
theorem lw_p18 : lw_okq (⟨"SearchGrids$Cell", "remains", "([I)J"⟩, 9) := ⟨⟨by decide +kernel, by decide +kernel⟩, List.mem_of_getElem? (i := 18) (by decide +kernel), List.mem_of_getElem? (i := 292) (by decide +kernel), List.mem_of_getElem? (i := 293) (by decide +kernel)⟩
theorem lw_p19 : lw_okq (⟨"SearchGrids", "allRemains", "()J"⟩, 12) := ⟨⟨by decide +kernel, by decide +kernel⟩, List.mem_of_getElem? (i := 8) (by decide +kernel), List.mem_of_getElem? (i := 296) (by decide +kernel), List.mem_of_getElem? (i := 297) (by decide +kernel)⟩
theorem lw_p20 : lw_okq (⟨"SearchGrids", "standingOf", "(LSearchGrids$Cell;)J"⟩, 12) := ⟨⟨by decide +kernel, by decide +kernel⟩, List.mem_of_getElem? (i := 8) (by decide +kernel), List.mem_of_getElem? (i := 348) (by decide +kernel), List.mem_of_getElem? (i := 349) (by decide +kernel)⟩
theorem lw_p21 : lw_okq (⟨"SearchGrids", "countBefore", "(I)I"⟩, 12) := ⟨⟨by decide +kernel, by decide +kernel⟩, List.mem_of_getElem? (i := 8) (by decide +kernel), List.mem_of_getElem? (i := 352) (by decide +kernel), List.mem_of_getElem? (i := 353) (by decide +kernel)⟩
theorem lw_p22 : lw_okq (⟨"SearchGridsModel", "isCell", "(I)Z"⟩, 21) := ⟨⟨by decide +kernel, by decide +kernel⟩, List.mem_of_getElem? (i := 372) (by decide +kernel), List.mem_of_getElem? (i := 451) (by decide +kernel), List.mem_of_getElem? (i := 452) (by decide +kernel)⟩
theorem lw_p23 : lw_okq (⟨"SearchGridsModel", "place", "(I)I"⟩, 21) := ⟨⟨by decide +kernel, by decide +kernel⟩, List.mem_of_getElem? (i := 372) (by decide +kernel), List.mem_of_getElem? (i := 456) (by decide +kernel), List.mem_of_getElem? (i := 457) (by decide +kernel)⟩
theorem lw_p24 : lw_okq (⟨"SearchGridsModel", "tell", "(I)I"⟩, 21) := ⟨⟨by decide +kernel, by decide +kernel⟩, List.mem_of_getElem? (i := 372) (by decide +kernel), List.mem_of_getElem? (i := 460) (by decide +kernel), List.mem_of_getElem? (i := 461) (by decide +kernel)⟩
theorem lw_p25 : lw_okq (⟨"SearchGridsModel", "move", "(II)V"⟩, 21) := ⟨⟨by decide +kernel, by decide +kernel⟩, List.mem_of_getElem? (i := 372) (by decide +kernel), List.mem_of_getElem? (i := 464) (by decide +kernel), List.mem_of_getElem? (i := 465) (by decide +kernel)⟩
theorem lw_p26 : lw_okq (⟨"SearchGridsModel", "changed", "()V"⟩, 21) := ⟨⟨by decide +kernel, by decide +kernel⟩, List.mem_of_getElem? (i := 372) (by decide +kernel), List.mem_of_getElem? (i := 468) (by decide +kernel), List.mem_of_getElem? (i := 469) (by decide +kernel)⟩
theorem lw_p27 : lw_okq (⟨"SearchGridsModel", "isLooker", "(I)Z"⟩, 21) := ⟨⟨by decide +kernel, by decide +kernel⟩, List.mem_of_getElem? (i := 372) (by decide +kernel), List.mem_of_getElem? (i := 485) (by decide +kernel), List.mem_of_getElem? (i := 486) (by decide +kernel)⟩
theorem lw_p28 : lw_okq (⟨"SearchGridsModel", "worth", "([I)J"⟩, 21) := ⟨⟨by decide +kernel, by decide +kernel⟩, List.mem_of_getElem? (i := 372) (by decide +kernel), List.mem_of_getElem? (i := 508) (by decide +kernel), List.mem_of_getElem? (i := 509) (by decide +kernel)⟩
theorem lw_p29 : lw_okq (⟨"SearchGridsModel", "weight", "(I)I"⟩, 21) := ⟨⟨by decide +kernel, by decide +kernel⟩, List.mem_of_getElem? (i := 372) (by decide +kernel), List.mem_of_getElem? (i := 512) (by decide +kernel), List.mem_of_getElem? (i := 513) (by decide +kernel)⟩
theorem lw_p30 : lw_okq (⟨"SearchGridsModel", "missed", "([II)J"⟩, 21) := ⟨⟨by decide +kernel, by decide +kernel⟩, List.mem_of_getElem? (i := 372) (by decide +kernel), List.mem_of_getElem? (i := 517) (by decide +kernel), List.mem_of_getElem? (i := 518) (by decide +kernel)⟩
theorem lw_p31 : lw_okq (⟨"SearchGridsModel", "given", "([II)I"⟩, 21) := ⟨⟨by decide +kernel, by decide +kernel⟩, List.mem_of_getElem? (i := 372) (by decide +kernel), List.mem_of_getElem? (i := 521) (by decide +kernel), List.mem_of_getElem? (i := 522) (by decide +kernel)⟩
def lw_privs_2 : List (MethodName × Nat) := [(⟨"SearchGrids", "isOutdone", "(IIIJJ)Z"⟩, 12), (⟨"SearchGrids$LookLog", "add", "(IIIJ)I"⟩, 6), (⟨"SearchGrids$Cell", "remains", "([I)J"⟩, 9), (⟨"SearchGrids", "allRemains", "()J"⟩, 12), (⟨"SearchGrids", "standingOf", "(LSearchGrids$Cell;)J"⟩, 12), (⟨"SearchGrids", "countBefore", "(I)I"⟩, 12), (⟨"SearchGridsModel", "isCell", "(I)Z"⟩, 21), (⟨"SearchGridsModel", "place", "(I)I"⟩, 21), (⟨"SearchGridsModel", "tell", "(I)I"⟩, 21), (⟨"SearchGridsModel", "move", "(II)V"⟩, 21), (⟨"SearchGridsModel", "changed", "()V"⟩, 21), (⟨"SearchGridsModel", "isLooker", "(I)Z"⟩, 21), (⟨"SearchGridsModel", "worth", "([I)J"⟩, 21), (⟨"SearchGridsModel", "weight", "(I)I"⟩, 21), (⟨"SearchGridsModel", "missed", "([II)J"⟩, 21), (⟨"SearchGridsModel", "given", "([II)I"⟩, 21)]
theorem lw_r2 : ∀ q ∈ lw_privs_2, lw_okq q := List.forall_mem_cons.mpr ⟨lw_p16, List.forall_mem_cons.mpr ⟨lw_p17, List.forall_mem_cons.mpr ⟨lw_p18, List.forall_mem_cons.mpr ⟨lw_p19, List.forall_mem_cons.mpr ⟨lw_p20, List.forall_mem_cons.mpr ⟨lw_p21, List.forall_mem_cons.mpr ⟨lw_p22, List.forall_mem_cons.mpr ⟨lw_p23, List.forall_mem_cons.mpr ⟨lw_p24, List.forall_mem_cons.mpr ⟨lw_p25, List.forall_mem_cons.mpr ⟨lw_p26, List.forall_mem_cons.mpr ⟨lw_p27, List.forall_mem_cons.mpr ⟨lw_p28, List.forall_mem_cons.mpr ⟨lw_p29, List.forall_mem_cons.mpr ⟨lw_p30, List.forall_mem_cons.mpr ⟨lw_p31, fun _ h => absurd h List.not_mem_nil⟩⟩⟩⟩⟩⟩⟩⟩⟩⟩⟩⟩⟩⟩⟩⟩
theorem lw_p32 : lw_okq (⟨"SearchGridsModel", "use", "(I)I"⟩, 21) := ⟨⟨by decide +kernel, by decide +kernel⟩, List.mem_of_getElem? (i := 372) (by decide +kernel), List.mem_of_getElem? (i := 525) (by decide +kernel), List.mem_of_getElem? (i := 526) (by decide +kernel)⟩
theorem lw_p33 : lw_okq (⟨"SearchGridsModel", "size", "()I"⟩, 21) := ⟨⟨by decide +kernel, by decide +kernel⟩, List.mem_of_getElem? (i := 372) (by decide +kernel), List.mem_of_getElem? (i := 529) (by decide +kernel), List.mem_of_getElem? (i := 530) (by decide +kernel)⟩
theorem lw_p34 : lw_okq (⟨"SearchGridsModel", "isBetter", "(IIJ)Z"⟩, 21) := ⟨⟨by decide +kernel, by decide +kernel⟩, List.mem_of_getElem? (i := 372) (by decide +kernel), List.mem_of_getElem? (i := 541) (by decide +kernel), List.mem_of_getElem? (i := 542) (by decide +kernel)⟩
theorem lw_p35 : lw_okq (⟨"SearchGridsModel", "slot", "(I)I"⟩, 21) := ⟨⟨by decide +kernel, by decide +kernel⟩, List.mem_of_getElem? (i := 372) (by decide +kernel), List.mem_of_getElem? (i := 545) (by decide +kernel), List.mem_of_getElem? (i := 546) (by decide +kernel)⟩
theorem lw_p36 : lw_okq (⟨"SearchGridsModel", "all", "()J"⟩, 21) := ⟨⟨by decide +kernel, by decide +kernel⟩, List.mem_of_getElem? (i := 372) (by decide +kernel), List.mem_of_getElem? (i := 554) (by decide +kernel), List.mem_of_getElem? (i := 555) (by decide +kernel)⟩
theorem lw_p37 : lw_okq (⟨"SearchGridsModel", "left", "()J"⟩, 21) := ⟨⟨by decide +kernel, by decide +kernel⟩, List.mem_of_getElem? (i := 372) (by decide +kernel), List.mem_of_getElem? (i := 568) (by decide +kernel), List.mem_of_getElem? (i := 569) (by decide +kernel)⟩
theorem lw_p38 : lw_okq (⟨"SearchGridsModel", "rank", "(I)J"⟩, 21) := ⟨⟨by decide +kernel, by decide +kernel⟩, List.mem_of_getElem? (i := 372) (by decide +kernel), List.mem_of_getElem? (i := 596) (by decide +kernel), List.mem_of_getElem? (i := 597) (by decide +kernel)⟩
def lw_privs_3 : List (MethodName × Nat) := [(⟨"SearchGridsModel", "use", "(I)I"⟩, 21), (⟨"SearchGridsModel", "size", "()I"⟩, 21), (⟨"SearchGridsModel", "isBetter", "(IIJ)Z"⟩, 21), (⟨"SearchGridsModel", "slot", "(I)I"⟩, 21), (⟨"SearchGridsModel", "all", "()J"⟩, 21), (⟨"SearchGridsModel", "left", "()J"⟩, 21), (⟨"SearchGridsModel", "rank", "(I)J"⟩, 21)]
theorem lw_r3 : ∀ q ∈ lw_privs_3, lw_okq q := List.forall_mem_cons.mpr ⟨lw_p32, List.forall_mem_cons.mpr ⟨lw_p33, List.forall_mem_cons.mpr ⟨lw_p34, List.forall_mem_cons.mpr ⟨lw_p35, List.forall_mem_cons.mpr ⟨lw_p36, List.forall_mem_cons.mpr ⟨lw_p37, List.forall_mem_cons.mpr ⟨lw_p38, fun _ h => absurd h List.not_mem_nil⟩⟩⟩⟩⟩⟩⟩
def lw_privs : List (MethodName × Nat) := lw_privs_1 ++ (lw_privs_2 ++ (lw_privs_3))
def lw_tbl : List Cond := k2_sels lw_privs ++ tables_1
theorem lw_privs_ok : ∀ q ∈ lw_privs, lw_okq q := by
  show ∀ q ∈ lw_privs_1 ++ (lw_privs_2 ++ (lw_privs_3)), lw_okq q
  exact List.forall_mem_append.mpr ⟨lw_r1, List.forall_mem_append.mpr ⟨lw_r2, lw_r3⟩⟩
-- ===== the tables, by wip/whole/names.py =====
def sg_tbl : List Cond := lw_tbl.filter goodWord
theorem gd {i : Nat} {w : Cond} (h : lw_tbl[i]? = some w) (hg : goodWord w = true) : w ∈ sg_tbl := List.mem_filter.mpr ⟨List.mem_of_getElem? h, hg⟩
theorem sg_good : ∀ w ∈ sg_tbl, (w.onTables && w.keeps) = true ∨ ∃ ty, w = .arrayClass ty := fun w h => good_of_word (List.mem_filter.mp h).2
theorem wd_0 : Jvm.Cond.initialized "SearchGridsLaw" ∈ sg_tbl := gd (i := 39) (by decide +kernel) rfl
theorem wd_1 : Jvm.Cond.initialized "SearchGrids" ∈ sg_tbl := gd (i := 40) (by decide +kernel) rfl
theorem wd_2 : Jvm.Cond.initialized "SearchGrids$Cell" ∈ sg_tbl := gd (i := 41) (by decide +kernel) rfl
theorem wd_3 : Jvm.Cond.initialized "SearchGrids$Looker" ∈ sg_tbl := gd (i := 42) (by decide +kernel) rfl
theorem wd_4 : Jvm.Cond.initialized "SearchGrids$LookLog" ∈ sg_tbl := gd (i := 43) (by decide +kernel) rfl
theorem wd_5 : Jvm.Cond.initialized "SearchGridsModel" ∈ sg_tbl := gd (i := 44) (by decide +kernel) rfl
theorem wd_6 : Jvm.Cond.initialized "java/lang/Math" ∈ sg_tbl := gd (i := 45) (by decide +kernel) rfl
theorem wd_7 : Jvm.Cond.classLink "SearchGridsLaw" (7 : Nat) "SearchGrids" ∈ sg_tbl := gd (i := 46) (by decide +kernel) rfl
theorem wd_8 : Jvm.Cond.instantiable "SearchGrids" (12 : Nat) ∈ sg_tbl := gd (i := 47) (by decide +kernel) rfl
theorem wd_9 : Jvm.Cond.methodLink "SearchGridsLaw" (15 : Nat) ({ cls := "SearchGrids", name := "<init>", desc := "(I)V" } : Jvm.MethodName) ∈ sg_tbl := gd (i := 48) (by decide +kernel) rfl
theorem wd_10 : Jvm.Cond.instanceMethod ({ cls := "SearchGrids", name := "<init>", desc := "(I)V" } : Jvm.MethodName) ∈ sg_tbl := gd (i := 49) (by decide +kernel) rfl
set_option maxRecDepth 100000 in
theorem wd_11 : Jvm.Cond.code ({ cls := "SearchGrids", name := "<init>", desc := "(I)V" } : Jvm.MethodName) prog_1_method_1_code (3 : Nat) (Option.none : Option Jvm.ClassFile.FieldType) ∈ sg_tbl := gd (i := 50) rfl rfl
theorem wd_12 : Jvm.Cond.methodLink "SearchGrids" (1 : Nat) ({ cls := "java/lang/Object", name := "<init>", desc := "()V" } : Jvm.MethodName) ∈ sg_tbl := gd (i := 51) (by decide +kernel) rfl
theorem wd_13 : Jvm.Cond.instanceMethod ({ cls := "java/lang/Object", name := "<init>", desc := "()V" } : Jvm.MethodName) ∈ sg_tbl := gd (i := 52) (by decide +kernel) rfl
set_option maxRecDepth 100000 in
theorem wd_14 : Jvm.Cond.code ({ cls := "java/lang/Object", name := "<init>", desc := "()V" } : Jvm.MethodName) object_method_1_code (1 : Nat) (Option.none : Option Jvm.ClassFile.FieldType) ∈ sg_tbl := gd (i := 53) rfl rfl
theorem wd_15 : Jvm.Cond.constant "SearchGrids" (9 : Nat) (65536 : Int32) ∈ sg_tbl := gd (i := 54) (by decide +kernel) rfl
theorem wd_16 : Jvm.Cond.classLink "SearchGrids" (18 : Nat) "SearchGrids$Cell" ∈ sg_tbl := gd (i := 55) (by decide +kernel) rfl
theorem wd_18 : Jvm.Cond.instantiable "SearchGrids$Cell" (9 : Nat) ∈ sg_tbl := gd (i := 57) (by decide +kernel) rfl
theorem wd_20 : Jvm.Cond.instanceMethod ({ cls := "SearchGrids$Cell", name := "<init>", desc := "()V" } : Jvm.MethodName) ∈ sg_tbl := gd (i := 59) (by decide +kernel) rfl
set_option maxRecDepth 100000 in
theorem wd_21 : Jvm.Cond.code ({ cls := "SearchGrids$Cell", name := "<init>", desc := "()V" } : Jvm.MethodName) prog_2_method_1_code (1 : Nat) (Option.none : Option Jvm.ClassFile.FieldType) ∈ sg_tbl := gd (i := 60) rfl rfl
theorem wd_22 : Jvm.Cond.methodLink "SearchGrids$Cell" (3 : Nat) ({ cls := "java/lang/Object", name := "<init>", desc := "()V" } : Jvm.MethodName) ∈ sg_tbl := gd (i := 61) (by decide +kernel) rfl
theorem wd_23 : Jvm.Cond.fieldLink "SearchGrids$Cell" (9 : Nat) "SearchGrids$Cell" "countOf" "[I" ∈ sg_tbl := gd (i := 62) (by decide +kernel) rfl
theorem wd_25 : Jvm.Cond.fieldLink "SearchGrids$Cell" (15 : Nat) "SearchGrids$Cell" "planned" "[I" ∈ sg_tbl := gd (i := 64) (by decide +kernel) rfl
theorem wd_27 : Jvm.Cond.fieldLink "SearchGrids$Cell" (18 : Nat) "SearchGrids$Cell" "looked" "[I" ∈ sg_tbl := gd (i := 66) (by decide +kernel) rfl
theorem wd_29 : Jvm.Cond.fieldLink "SearchGrids$Cell" (21 : Nat) "SearchGrids$Cell" "trial" "[I" ∈ sg_tbl := gd (i := 68) (by decide +kernel) rfl
theorem wd_31 : Jvm.Cond.fieldLink "SearchGrids$Cell" (24 : Nat) "SearchGrids$Cell" "gains" "[J" ∈ sg_tbl := gd (i := 70) (by decide +kernel) rfl
theorem wd_33 : Jvm.Cond.fieldLink "SearchGrids$Cell" (28 : Nat) "SearchGrids$Cell" "number" "I" ∈ sg_tbl := gd (i := 72) (by decide +kernel) rfl
theorem wd_35 : Jvm.Cond.fieldLink "SearchGrids$Cell" (32 : Nat) "SearchGrids$Cell" "squares" "I" ∈ sg_tbl := gd (i := 74) (by decide +kernel) rfl
theorem wd_37 : Jvm.Cond.fieldLink "SearchGrids$Cell" (35 : Nat) "SearchGrids$Cell" "scale" "I" ∈ sg_tbl := gd (i := 76) (by decide +kernel) rfl
theorem wd_40 : Jvm.Cond.laysFinal "SearchGrids$Cell" "SearchGrids$Cell" "countOf" "[I" ∈ sg_tbl := gd (i := 79) (by decide +kernel) rfl
theorem wd_42 : Jvm.Cond.laysFinal "SearchGrids$Cell" "SearchGrids$Cell" "planned" "[I" ∈ sg_tbl := gd (i := 81) (by decide +kernel) rfl
theorem wd_44 : Jvm.Cond.laysFinal "SearchGrids$Cell" "SearchGrids$Cell" "looked" "[I" ∈ sg_tbl := gd (i := 83) (by decide +kernel) rfl
theorem wd_46 : Jvm.Cond.laysFinal "SearchGrids$Cell" "SearchGrids$Cell" "trial" "[I" ∈ sg_tbl := gd (i := 85) (by decide +kernel) rfl
theorem wd_48 : Jvm.Cond.laysFinal "SearchGrids$Cell" "SearchGrids$Cell" "gains" "[J" ∈ sg_tbl := gd (i := 87) (by decide +kernel) rfl
theorem wd_50 : Jvm.Cond.lays "SearchGrids$Cell" "SearchGrids$Cell" "number" "I" ∈ sg_tbl := gd (i := 89) (by decide +kernel) rfl
theorem wd_52 : Jvm.Cond.lays "SearchGrids$Cell" "SearchGrids$Cell" "squares" "I" ∈ sg_tbl := gd (i := 91) (by decide +kernel) rfl
theorem wd_54 : Jvm.Cond.lays "SearchGrids$Cell" "SearchGrids$Cell" "scale" "I" ∈ sg_tbl := gd (i := 93) (by decide +kernel) rfl
theorem wd_56 : Jvm.Cond.lays "SearchGrids$Cell" "SearchGrids$Cell" "standing" "J" ∈ sg_tbl := gd (i := 95) (by decide +kernel) rfl
theorem wd_59 : Jvm.Cond.arrayClass Jvm.ClassFile.FieldType.int ∈ sg_tbl := gd (i := 98) (by decide +kernel) rfl
theorem wd_60 : Jvm.Cond.arrayClass Jvm.ClassFile.FieldType.long ∈ sg_tbl := gd (i := 99) (by decide +kernel) rfl
theorem wd_61 : Jvm.Cond.classLink "SearchGrids" (25 : Nat) "SearchGrids$Looker" ∈ sg_tbl := gd (i := 100) (by decide +kernel) rfl
theorem wd_63 : Jvm.Cond.instantiable "SearchGrids$Looker" (5 : Nat) ∈ sg_tbl := gd (i := 102) (by decide +kernel) rfl
theorem wd_65 : Jvm.Cond.instanceMethod ({ cls := "SearchGrids$Looker", name := "<init>", desc := "()V" } : Jvm.MethodName) ∈ sg_tbl := gd (i := 104) (by decide +kernel) rfl
set_option maxRecDepth 100000 in
theorem wd_66 : Jvm.Cond.code ({ cls := "SearchGrids$Looker", name := "<init>", desc := "()V" } : Jvm.MethodName) prog_4_method_1_code (1 : Nat) (Option.none : Option Jvm.ClassFile.FieldType) ∈ sg_tbl := gd (i := 105) rfl rfl
theorem wd_67 : Jvm.Cond.methodLink "SearchGrids$Looker" (3 : Nat) ({ cls := "java/lang/Object", name := "<init>", desc := "()V" } : Jvm.MethodName) ∈ sg_tbl := gd (i := 106) (by decide +kernel) rfl
theorem wd_68 : Jvm.Cond.fieldLink "SearchGrids$Looker" (9 : Nat) "SearchGrids$Looker" "useless" "[Z" ∈ sg_tbl := gd (i := 107) (by decide +kernel) rfl
theorem wd_69 : Jvm.Cond.fieldLink "SearchGrids$Looker" (15 : Nat) "SearchGrids$Looker" "hours" "I" ∈ sg_tbl := gd (i := 108) (by decide +kernel) rfl
theorem wd_70 : Jvm.Cond.fieldLink "SearchGrids$Looker" (19 : Nat) "SearchGrids$Looker" "use" "I" ∈ sg_tbl := gd (i := 109) (by decide +kernel) rfl
theorem wd_74 : Jvm.Cond.laysFinal "SearchGrids$Looker" "SearchGrids$Looker" "useless" "[Z" ∈ sg_tbl := gd (i := 113) (by decide +kernel) rfl
theorem wd_76 : Jvm.Cond.lays "SearchGrids$Looker" "SearchGrids$Looker" "hours" "I" ∈ sg_tbl := gd (i := 115) (by decide +kernel) rfl
theorem wd_78 : Jvm.Cond.lays "SearchGrids$Looker" "SearchGrids$Looker" "use" "I" ∈ sg_tbl := gd (i := 117) (by decide +kernel) rfl
theorem wd_80 : Jvm.Cond.lays "SearchGrids$Looker" "SearchGrids$Looker" "given" "I" ∈ sg_tbl := gd (i := 119) (by decide +kernel) rfl
theorem wd_82 : Jvm.Cond.lays "SearchGrids$Looker" "SearchGrids$Looker" "trial" "I" ∈ sg_tbl := gd (i := 121) (by decide +kernel) rfl
theorem wd_85 : Jvm.Cond.arrayClass Jvm.ClassFile.FieldType.boolean ∈ sg_tbl := gd (i := 124) (by decide +kernel) rfl
theorem wd_86 : Jvm.Cond.classLink "SearchGrids" (35 : Nat) "SearchGrids$LookLog" ∈ sg_tbl := gd (i := 125) (by decide +kernel) rfl
theorem wd_87 : Jvm.Cond.instantiable "SearchGrids$LookLog" (6 : Nat) ∈ sg_tbl := gd (i := 126) (by decide +kernel) rfl
theorem wd_89 : Jvm.Cond.instanceMethod ({ cls := "SearchGrids$LookLog", name := "<init>", desc := "()V" } : Jvm.MethodName) ∈ sg_tbl := gd (i := 128) (by decide +kernel) rfl
set_option maxRecDepth 100000 in
theorem wd_90 : Jvm.Cond.code ({ cls := "SearchGrids$LookLog", name := "<init>", desc := "()V" } : Jvm.MethodName) prog_3_method_1_code (1 : Nat) (Option.none : Option Jvm.ClassFile.FieldType) ∈ sg_tbl := gd (i := 129) rfl rfl
theorem wd_91 : Jvm.Cond.methodLink "SearchGrids$LookLog" (3 : Nat) ({ cls := "java/lang/Object", name := "<init>", desc := "()V" } : Jvm.MethodName) ∈ sg_tbl := gd (i := 130) (by decide +kernel) rfl
theorem wd_92 : Jvm.Cond.fieldLink "SearchGrids$LookLog" (9 : Nat) "SearchGrids$LookLog" "lookers" "[I" ∈ sg_tbl := gd (i := 131) (by decide +kernel) rfl
theorem wd_94 : Jvm.Cond.fieldLink "SearchGrids$LookLog" (15 : Nat) "SearchGrids$LookLog" "cells" "[I" ∈ sg_tbl := gd (i := 133) (by decide +kernel) rfl
theorem wd_96 : Jvm.Cond.fieldLink "SearchGrids$LookLog" (18 : Nat) "SearchGrids$LookLog" "hours" "[I" ∈ sg_tbl := gd (i := 135) (by decide +kernel) rfl
theorem wd_98 : Jvm.Cond.fieldLink "SearchGrids$LookLog" (21 : Nat) "SearchGrids$LookLog" "tolds" "[J" ∈ sg_tbl := gd (i := 137) (by decide +kernel) rfl
theorem wd_99 : Jvm.Cond.fieldLink "SearchGrids$LookLog" (25 : Nat) "SearchGrids$LookLog" "byTold" "[I" ∈ sg_tbl := gd (i := 138) (by decide +kernel) rfl
theorem wd_101 : Jvm.Cond.fieldLink "SearchGrids$LookLog" (28 : Nat) "SearchGrids$LookLog" "size" "I" ∈ sg_tbl := gd (i := 140) (by decide +kernel) rfl
theorem wd_103 : Jvm.Cond.laysFinal "SearchGrids$LookLog" "SearchGrids$LookLog" "lookers" "[I" ∈ sg_tbl := gd (i := 142) (by decide +kernel) rfl
theorem wd_105 : Jvm.Cond.laysFinal "SearchGrids$LookLog" "SearchGrids$LookLog" "cells" "[I" ∈ sg_tbl := gd (i := 144) (by decide +kernel) rfl
theorem wd_107 : Jvm.Cond.laysFinal "SearchGrids$LookLog" "SearchGrids$LookLog" "hours" "[I" ∈ sg_tbl := gd (i := 146) (by decide +kernel) rfl
theorem wd_109 : Jvm.Cond.laysFinal "SearchGrids$LookLog" "SearchGrids$LookLog" "tolds" "[J" ∈ sg_tbl := gd (i := 148) (by decide +kernel) rfl
theorem wd_111 : Jvm.Cond.laysFinal "SearchGrids$LookLog" "SearchGrids$LookLog" "byTold" "[I" ∈ sg_tbl := gd (i := 150) (by decide +kernel) rfl
theorem wd_113 : Jvm.Cond.lays "SearchGrids$LookLog" "SearchGrids$LookLog" "size" "I" ∈ sg_tbl := gd (i := 152) (by decide +kernel) rfl
theorem wd_116 : Jvm.Cond.fieldLink "SearchGrids" (10 : Nat) "SearchGrids" "cells" "I" ∈ sg_tbl := gd (i := 155) (by decide +kernel) rfl
theorem wd_117 : Jvm.Cond.fieldLink "SearchGrids" (20 : Nat) "SearchGrids" "toldCells" "[LSearchGrids$Cell;" ∈ sg_tbl := gd (i := 156) (by decide +kernel) rfl
theorem wd_118 : Jvm.Cond.fieldLink "SearchGrids" (109 : Nat) "SearchGrids" "toldCount" "I" ∈ sg_tbl := gd (i := 157) (by decide +kernel) rfl
theorem wd_119 : Jvm.Cond.fieldLink "SearchGrids" (27 : Nat) "SearchGrids" "lookers" "[LSearchGrids$Looker;" ∈ sg_tbl := gd (i := 158) (by decide +kernel) rfl
theorem wd_120 : Jvm.Cond.fieldLink "SearchGrids" (77 : Nat) "SearchGrids" "lookerCount" "I" ∈ sg_tbl := gd (i := 159) (by decide +kernel) rfl
theorem wd_121 : Jvm.Cond.fieldLink "SearchGrids" (14 : Nat) "SearchGrids" "rates" "[I" ∈ sg_tbl := gd (i := 160) (by decide +kernel) rfl
theorem wd_122 : Jvm.Cond.fieldLink "SearchGrids" (32 : Nat) "SearchGrids" "thingCount" "I" ∈ sg_tbl := gd (i := 161) (by decide +kernel) rfl
theorem wd_123 : Jvm.Cond.fieldLink "SearchGrids" (38 : Nat) "SearchGrids" "looks" "LSearchGrids$LookLog;" ∈ sg_tbl := gd (i := 162) (by decide +kernel) rfl
theorem wd_124 : Jvm.Cond.fieldLink "SearchGrids" (42 : Nat) "SearchGrids" "seenCell" "I" ∈ sg_tbl := gd (i := 163) (by decide +kernel) rfl
theorem wd_125 : Jvm.Cond.fieldLink "SearchGrids" (169 : Nat) "SearchGrids" "stopAbove" "J" ∈ sg_tbl := gd (i := 164) (by decide +kernel) rfl
theorem wd_126 : Jvm.Cond.fieldLink "SearchGrids" (173 : Nat) "SearchGrids" "stopBelow" "J" ∈ sg_tbl := gd (i := 165) (by decide +kernel) rfl
theorem wd_127 : Jvm.Cond.fieldLink "SearchGrids" (45 : Nat) "SearchGrids" "gone" "[Z" ∈ sg_tbl := gd (i := 166) (by decide +kernel) rfl
theorem wd_128 : Jvm.Cond.laysFinal "SearchGrids" "SearchGrids" "cells" "I" ∈ sg_tbl := gd (i := 167) (by decide +kernel) rfl
theorem wd_130 : Jvm.Cond.laysFinal "SearchGrids" "SearchGrids" "toldCells" "[LSearchGrids$Cell;" ∈ sg_tbl := gd (i := 169) (by decide +kernel) rfl
theorem wd_132 : Jvm.Cond.lays "SearchGrids" "SearchGrids" "toldCount" "I" ∈ sg_tbl := gd (i := 171) (by decide +kernel) rfl
theorem wd_134 : Jvm.Cond.laysFinal "SearchGrids" "SearchGrids" "lookers" "[LSearchGrids$Looker;" ∈ sg_tbl := gd (i := 173) (by decide +kernel) rfl
theorem wd_136 : Jvm.Cond.lays "SearchGrids" "SearchGrids" "lookerCount" "I" ∈ sg_tbl := gd (i := 175) (by decide +kernel) rfl
theorem wd_138 : Jvm.Cond.laysFinal "SearchGrids" "SearchGrids" "rates" "[I" ∈ sg_tbl := gd (i := 177) (by decide +kernel) rfl
theorem wd_140 : Jvm.Cond.lays "SearchGrids" "SearchGrids" "thingCount" "I" ∈ sg_tbl := gd (i := 179) (by decide +kernel) rfl
theorem wd_142 : Jvm.Cond.laysFinal "SearchGrids" "SearchGrids" "looks" "LSearchGrids$LookLog;" ∈ sg_tbl := gd (i := 181) (by decide +kernel) rfl
theorem wd_144 : Jvm.Cond.lays "SearchGrids" "SearchGrids" "seenCell" "I" ∈ sg_tbl := gd (i := 183) (by decide +kernel) rfl
theorem wd_146 : Jvm.Cond.lays "SearchGrids" "SearchGrids" "stopAbove" "J" ∈ sg_tbl := gd (i := 185) (by decide +kernel) rfl
theorem wd_148 : Jvm.Cond.lays "SearchGrids" "SearchGrids" "stopBelow" "J" ∈ sg_tbl := gd (i := 187) (by decide +kernel) rfl
theorem wd_150 : Jvm.Cond.laysFinal "SearchGrids" "SearchGrids" "gone" "[Z" ∈ sg_tbl := gd (i := 189) (by decide +kernel) rfl
theorem wd_153 : Jvm.Cond.methodLink "SearchGridsLaw" (23 : Nat) ({ cls := "SearchGrids", name := "counts", desc := "(IJ)Z" } : Jvm.MethodName) ∈ sg_tbl := gd (i := 192) (by decide +kernel) rfl
theorem wd_154 : Jvm.Cond.instanceMethod ({ cls := "SearchGrids", name := "counts", desc := "(IJ)Z" } : Jvm.MethodName) ∈ sg_tbl := gd (i := 193) (by decide +kernel) rfl
theorem wd_155 : Jvm.Cond.selects "SearchGrids" ({ cls := "SearchGrids", name := "counts", desc := "(IJ)Z" } : Jvm.MethodName) ({ cls := "SearchGrids", name := "counts", desc := "(IJ)Z" } : Jvm.MethodName) ∈ sg_tbl := gd (i := 194) (by decide +kernel) rfl
set_option maxRecDepth 100000 in
theorem wd_156 : Jvm.Cond.code ({ cls := "SearchGrids", name := "counts", desc := "(IJ)Z" } : Jvm.MethodName) prog_1_method_2_code (4 : Nat) (Option.some Jvm.ClassFile.FieldType.boolean) ∈ sg_tbl := gd (i := 195) rfl rfl
theorem wd_157 : Jvm.Cond.methodLink "SearchGrids" (49 : Nat) ({ cls := "SearchGrids", name := "countsOf", desc := "(IIJ)Z" } : Jvm.MethodName) ∈ sg_tbl := gd (i := 196) (by decide +kernel) rfl
theorem wd_158 : Jvm.Cond.instanceMethod ({ cls := "SearchGrids", name := "countsOf", desc := "(IIJ)Z" } : Jvm.MethodName) ∈ sg_tbl := gd (i := 197) (by decide +kernel) rfl
theorem wd_159 : Jvm.Cond.selects "SearchGrids" ({ cls := "SearchGrids", name := "countsOf", desc := "(IIJ)Z" } : Jvm.MethodName) ({ cls := "SearchGrids", name := "countsOf", desc := "(IIJ)Z" } : Jvm.MethodName) ∈ sg_tbl := gd (i := 198) (by decide +kernel) rfl
set_option maxRecDepth 100000 in
theorem wd_160 : Jvm.Cond.code ({ cls := "SearchGrids", name := "countsOf", desc := "(IIJ)Z" } : Jvm.MethodName) prog_1_method_17_code (6 : Nat) (Option.some Jvm.ClassFile.FieldType.boolean) ∈ sg_tbl := gd (i := 199) rfl rfl
theorem wd_161 : Jvm.Cond.methodLink "SearchGrids" (85 : Nat) ({ cls := "SearchGrids", name := "isWithin", desc := "(JJJ)Z" } : Jvm.MethodName) ∈ sg_tbl := gd (i := 200) (by decide +kernel) rfl
theorem wd_162 : Jvm.Cond.static ({ cls := "SearchGrids", name := "isWithin", desc := "(JJJ)Z" } : Jvm.MethodName) ∈ sg_tbl := gd (i := 201) (by decide +kernel) rfl
set_option maxRecDepth 100000 in
theorem wd_163 : Jvm.Cond.code ({ cls := "SearchGrids", name := "isWithin", desc := "(JJJ)Z" } : Jvm.MethodName) prog_1_method_27_code (6 : Nat) (Option.some Jvm.ClassFile.FieldType.boolean) ∈ sg_tbl := gd (i := 202) rfl rfl
theorem wd_164 : Jvm.Cond.methodLink "SearchGrids" (53 : Nat) ({ cls := "SearchGrids", name := "isCell", desc := "(I)Z" } : Jvm.MethodName) ∈ sg_tbl := gd (i := 203) (by decide +kernel) rfl
theorem wd_166 : Jvm.Cond.instanceMethod ({ cls := "SearchGrids", name := "isCell", desc := "(I)Z" } : Jvm.MethodName) ∈ sg_tbl := gd (i := 205) (by decide +kernel) rfl
set_option maxRecDepth 100000 in
theorem wd_167 : Jvm.Cond.code ({ cls := "SearchGrids", name := "isCell", desc := "(I)Z" } : Jvm.MethodName) prog_1_method_24_code (2 : Nat) (Option.some Jvm.ClassFile.FieldType.boolean) ∈ sg_tbl := gd (i := 206) rfl rfl
theorem wd_168 : Jvm.Cond.constantLong "SearchGrids" (83 : Nat) (1000 : Int64) ∈ sg_tbl := gd (i := 207) (by decide +kernel) rfl
theorem wd_169 : Jvm.Cond.methodLink "SearchGrids" (166 : Nat) ({ cls := "SearchGrids", name := "tellOf", desc := "(I)I" } : Jvm.MethodName) ∈ sg_tbl := gd (i := 208) (by decide +kernel) rfl
theorem wd_171 : Jvm.Cond.instanceMethod ({ cls := "SearchGrids", name := "tellOf", desc := "(I)I" } : Jvm.MethodName) ∈ sg_tbl := gd (i := 210) (by decide +kernel) rfl
set_option maxRecDepth 100000 in
theorem wd_172 : Jvm.Cond.code ({ cls := "SearchGrids", name := "tellOf", desc := "(I)I" } : Jvm.MethodName) prog_1_method_29_code (4 : Nat) (Option.some Jvm.ClassFile.FieldType.int) ∈ sg_tbl := gd (i := 211) rfl rfl
theorem wd_173 : Jvm.Cond.methodLink "SearchGrids" (66 : Nat) ({ cls := "SearchGrids", name := "placeOf", desc := "(I)I" } : Jvm.MethodName) ∈ sg_tbl := gd (i := 212) (by decide +kernel) rfl
theorem wd_175 : Jvm.Cond.instanceMethod ({ cls := "SearchGrids", name := "placeOf", desc := "(I)I" } : Jvm.MethodName) ∈ sg_tbl := gd (i := 214) (by decide +kernel) rfl
set_option maxRecDepth 100000 in
theorem wd_176 : Jvm.Cond.code ({ cls := "SearchGrids", name := "placeOf", desc := "(I)I" } : Jvm.MethodName) prog_1_method_28_code (3 : Nat) (Option.some Jvm.ClassFile.FieldType.int) ∈ sg_tbl := gd (i := 215) rfl rfl
theorem wd_177 : Jvm.Cond.methodLink "SearchGrids" (95 : Nat) ({ cls := "SearchGrids", name := "dropPlan", desc := "()V" } : Jvm.MethodName) ∈ sg_tbl := gd (i := 216) (by decide +kernel) rfl
theorem wd_179 : Jvm.Cond.instanceMethod ({ cls := "SearchGrids", name := "dropPlan", desc := "()V" } : Jvm.MethodName) ∈ sg_tbl := gd (i := 218) (by decide +kernel) rfl
set_option maxRecDepth 100000 in
theorem wd_180 : Jvm.Cond.code ({ cls := "SearchGrids", name := "dropPlan", desc := "()V" } : Jvm.MethodName) prog_1_method_32_code (3 : Nat) (Option.none : Option Jvm.ClassFile.FieldType) ∈ sg_tbl := gd (i := 219) rfl rfl
theorem wd_181 : Jvm.Cond.methodLink "SearchGridsLaw" (28 : Nat) ({ cls := "SearchGrids", name := "odds", desc := "(II)J" } : Jvm.MethodName) ∈ sg_tbl := gd (i := 220) (by decide +kernel) rfl
theorem wd_182 : Jvm.Cond.instanceMethod ({ cls := "SearchGrids", name := "odds", desc := "(II)J" } : Jvm.MethodName) ∈ sg_tbl := gd (i := 221) (by decide +kernel) rfl
theorem wd_183 : Jvm.Cond.selects "SearchGrids" ({ cls := "SearchGrids", name := "odds", desc := "(II)J" } : Jvm.MethodName) ({ cls := "SearchGrids", name := "odds", desc := "(II)J" } : Jvm.MethodName) ∈ sg_tbl := gd (i := 222) (by decide +kernel) rfl
set_option maxRecDepth 100000 in
theorem wd_184 : Jvm.Cond.code ({ cls := "SearchGrids", name := "odds", desc := "(II)J" } : Jvm.MethodName) prog_1_method_3_code (4 : Nat) (Option.some Jvm.ClassFile.FieldType.long) ∈ sg_tbl := gd (i := 223) rfl rfl
theorem wd_185 : Jvm.Cond.methodLink "SearchGrids" (57 : Nat) ({ cls := "SearchGrids", name := "isZeroOrOne", desc := "(I)Z" } : Jvm.MethodName) ∈ sg_tbl := gd (i := 224) (by decide +kernel) rfl
theorem wd_186 : Jvm.Cond.static ({ cls := "SearchGrids", name := "isZeroOrOne", desc := "(I)Z" } : Jvm.MethodName) ∈ sg_tbl := gd (i := 225) (by decide +kernel) rfl
set_option maxRecDepth 100000 in
theorem wd_187 : Jvm.Cond.code ({ cls := "SearchGrids", name := "isZeroOrOne", desc := "(I)Z" } : Jvm.MethodName) prog_1_method_26_code (1 : Nat) (Option.some Jvm.ClassFile.FieldType.boolean) ∈ sg_tbl := gd (i := 226) rfl rfl
theorem wd_188 : Jvm.Cond.constantLong "SearchGrids" (60 : Nat) (-1 : Int64) ∈ sg_tbl := gd (i := 227) (by decide +kernel) rfl
theorem wd_189 : Jvm.Cond.methodLink "SearchGrids" (62 : Nat) ({ cls := "SearchGrids", name := "fraction", desc := "(JJI)J" } : Jvm.MethodName) ∈ sg_tbl := gd (i := 228) (by decide +kernel) rfl
theorem wd_190 : Jvm.Cond.static ({ cls := "SearchGrids", name := "fraction", desc := "(JJI)J" } : Jvm.MethodName) ∈ sg_tbl := gd (i := 229) (by decide +kernel) rfl
set_option maxRecDepth 100000 in
theorem wd_191 : Jvm.Cond.code ({ cls := "SearchGrids", name := "fraction", desc := "(JJI)J" } : Jvm.MethodName) prog_1_method_42_code (7 : Nat) (Option.some Jvm.ClassFile.FieldType.long) ∈ sg_tbl := gd (i := 230) rfl rfl
theorem wd_192 : Jvm.Cond.methodLink "SearchGrids" (228 : Nat) ({ cls := "SearchGrids", name := "commonDivisor", desc := "(JJ)J" } : Jvm.MethodName) ∈ sg_tbl := gd (i := 231) (by decide +kernel) rfl
theorem wd_193 : Jvm.Cond.static ({ cls := "SearchGrids", name := "commonDivisor", desc := "(JJ)J" } : Jvm.MethodName) ∈ sg_tbl := gd (i := 232) (by decide +kernel) rfl
set_option maxRecDepth 100000 in
theorem wd_194 : Jvm.Cond.code ({ cls := "SearchGrids", name := "commonDivisor", desc := "(JJ)J" } : Jvm.MethodName) prog_1_method_43_code (11 : Nat) (Option.some Jvm.ClassFile.FieldType.long) ∈ sg_tbl := gd (i := 233) rfl rfl
theorem wd_195 : Jvm.Cond.methodLink "SearchGrids" (73 : Nat) ({ cls := "SearchGrids", name := "allCounts", desc := "()J" } : Jvm.MethodName) ∈ sg_tbl := gd (i := 234) (by decide +kernel) rfl
theorem wd_197 : Jvm.Cond.instanceMethod ({ cls := "SearchGrids", name := "allCounts", desc := "()J" } : Jvm.MethodName) ∈ sg_tbl := gd (i := 236) (by decide +kernel) rfl
set_option maxRecDepth 100000 in
theorem wd_198 : Jvm.Cond.code ({ cls := "SearchGrids", name := "allCounts", desc := "()J" } : Jvm.MethodName) prog_1_method_30_code (4 : Nat) (Option.some Jvm.ClassFile.FieldType.long) ∈ sg_tbl := gd (i := 237) rfl rfl
theorem wd_199 : Jvm.Cond.methodLink "SearchGridsLaw" (33 : Nat) ({ cls := "SearchGrids", name := "looker", desc := "(JJI)I" } : Jvm.MethodName) ∈ sg_tbl := gd (i := 238) (by decide +kernel) rfl
theorem wd_200 : Jvm.Cond.instanceMethod ({ cls := "SearchGrids", name := "looker", desc := "(JJI)I" } : Jvm.MethodName) ∈ sg_tbl := gd (i := 239) (by decide +kernel) rfl
theorem wd_201 : Jvm.Cond.selects "SearchGrids" ({ cls := "SearchGrids", name := "looker", desc := "(JJI)I" } : Jvm.MethodName) ({ cls := "SearchGrids", name := "looker", desc := "(JJI)I" } : Jvm.MethodName) ∈ sg_tbl := gd (i := 240) (by decide +kernel) rfl
set_option maxRecDepth 100000 in
theorem wd_202 : Jvm.Cond.code ({ cls := "SearchGrids", name := "looker", desc := "(JJI)I" } : Jvm.MethodName) prog_1_method_4_code (7 : Nat) (Option.some Jvm.ClassFile.FieldType.int) ∈ sg_tbl := gd (i := 241) rfl rfl
theorem wd_203 : Jvm.Cond.constantLong "SearchGrids" (89 : Nat) (24 : Int64) ∈ sg_tbl := gd (i := 242) (by decide +kernel) rfl
theorem wd_206 : Jvm.Cond.instanceMethod ({ cls := "SearchGrids$Looker", name := "begin", desc := "(I)V" } : Jvm.MethodName) ∈ sg_tbl := gd (i := 245) (by decide +kernel) rfl
set_option maxRecDepth 100000 in
theorem wd_207 : Jvm.Cond.code ({ cls := "SearchGrids$Looker", name := "begin", desc := "(I)V" } : Jvm.MethodName) prog_4_method_2_code (2 : Nat) (Option.none : Option Jvm.ClassFile.FieldType) ∈ sg_tbl := gd (i := 246) rfl rfl
theorem wd_208 : Jvm.Cond.methodLink "SearchGridsLaw" (38 : Nat) ({ cls := "SearchGrids", name := "bar", desc := "(II)Z" } : Jvm.MethodName) ∈ sg_tbl := gd (i := 247) (by decide +kernel) rfl
theorem wd_209 : Jvm.Cond.instanceMethod ({ cls := "SearchGrids", name := "bar", desc := "(II)Z" } : Jvm.MethodName) ∈ sg_tbl := gd (i := 248) (by decide +kernel) rfl
theorem wd_210 : Jvm.Cond.selects "SearchGrids" ({ cls := "SearchGrids", name := "bar", desc := "(II)Z" } : Jvm.MethodName) ({ cls := "SearchGrids", name := "bar", desc := "(II)Z" } : Jvm.MethodName) ∈ sg_tbl := gd (i := 249) (by decide +kernel) rfl
set_option maxRecDepth 100000 in
theorem wd_211 : Jvm.Cond.code ({ cls := "SearchGrids", name := "bar", desc := "(II)Z" } : Jvm.MethodName) prog_1_method_5_code (3 : Nat) (Option.some Jvm.ClassFile.FieldType.boolean) ∈ sg_tbl := gd (i := 250) rfl rfl
theorem wd_212 : Jvm.Cond.methodLink "SearchGrids" (98 : Nat) ({ cls := "SearchGrids", name := "isLooker", desc := "(I)Z" } : Jvm.MethodName) ∈ sg_tbl := gd (i := 251) (by decide +kernel) rfl
theorem wd_214 : Jvm.Cond.instanceMethod ({ cls := "SearchGrids", name := "isLooker", desc := "(I)Z" } : Jvm.MethodName) ∈ sg_tbl := gd (i := 253) (by decide +kernel) rfl
set_option maxRecDepth 100000 in
theorem wd_215 : Jvm.Cond.code ({ cls := "SearchGrids", name := "isLooker", desc := "(I)Z" } : Jvm.MethodName) prog_1_method_25_code (2 : Nat) (Option.some Jvm.ClassFile.FieldType.boolean) ∈ sg_tbl := gd (i := 254) rfl rfl
theorem wd_216 : Jvm.Cond.constantLong "SearchGrids" (101 : Nat) (23 : Int64) ∈ sg_tbl := gd (i := 255) (by decide +kernel) rfl
theorem wd_219 : Jvm.Cond.instanceMethod ({ cls := "SearchGrids$Looker", name := "takeAway", desc := "(II)V" } : Jvm.MethodName) ∈ sg_tbl := gd (i := 258) (by decide +kernel) rfl
set_option maxRecDepth 100000 in
theorem wd_220 : Jvm.Cond.code ({ cls := "SearchGrids$Looker", name := "takeAway", desc := "(II)V" } : Jvm.MethodName) prog_4_method_3_code (4 : Nat) (Option.none : Option Jvm.ClassFile.FieldType) ∈ sg_tbl := gd (i := 259) rfl rfl
theorem wd_221 : Jvm.Cond.methodLink "SearchGrids$Looker" (22 : Nat) ({ cls := "java/lang/Math", name := "max", desc := "(II)I" } : Jvm.MethodName) ∈ sg_tbl := gd (i := 260) (by decide +kernel) rfl
theorem wd_222 : Jvm.Cond.static ({ cls := "java/lang/Math", name := "max", desc := "(II)I" } : Jvm.MethodName) ∈ sg_tbl := gd (i := 261) (by decide +kernel) rfl
set_option maxRecDepth 100000 in
theorem wd_223 : Jvm.Cond.code ({ cls := "java/lang/Math", name := "max", desc := "(II)I" } : Jvm.MethodName) prog_7_method_65_code (2 : Nat) (Option.some Jvm.ClassFile.FieldType.int) ∈ sg_tbl := gd (i := 262) rfl rfl
theorem wd_224 : Jvm.Cond.methodLink "SearchGridsLaw" (43 : Nat) ({ cls := "SearchGrids", name := "share", desc := "(I)I" } : Jvm.MethodName) ∈ sg_tbl := gd (i := 263) (by decide +kernel) rfl
theorem wd_225 : Jvm.Cond.instanceMethod ({ cls := "SearchGrids", name := "share", desc := "(I)I" } : Jvm.MethodName) ∈ sg_tbl := gd (i := 264) (by decide +kernel) rfl
theorem wd_226 : Jvm.Cond.selects "SearchGrids" ({ cls := "SearchGrids", name := "share", desc := "(I)I" } : Jvm.MethodName) ({ cls := "SearchGrids", name := "share", desc := "(I)I" } : Jvm.MethodName) ∈ sg_tbl := gd (i := 265) (by decide +kernel) rfl
set_option maxRecDepth 100000 in
theorem wd_227 : Jvm.Cond.code ({ cls := "SearchGrids", name := "share", desc := "(I)I" } : Jvm.MethodName) prog_1_method_6_code (3 : Nat) (Option.some Jvm.ClassFile.FieldType.int) ∈ sg_tbl := gd (i := 266) rfl rfl
theorem wd_228 : Jvm.Cond.constantLong "SearchGrids" (107 : Nat) (100 : Int64) ∈ sg_tbl := gd (i := 267) (by decide +kernel) rfl
theorem wd_231 : Jvm.Cond.instanceMethod ({ cls := "SearchGrids$Cell", name := "reckonGains", desc := "([I)V" } : Jvm.MethodName) ∈ sg_tbl := gd (i := 270) (by decide +kernel) rfl
set_option maxRecDepth 100000 in
theorem wd_232 : Jvm.Cond.code ({ cls := "SearchGrids$Cell", name := "reckonGains", desc := "([I)V" } : Jvm.MethodName) prog_2_method_7_code (5 : Nat) (Option.none : Option Jvm.ClassFile.FieldType) ∈ sg_tbl := gd (i := 271) rfl rfl
theorem wd_233 : Jvm.Cond.methodLink "SearchGrids$Cell" (58 : Nat) ({ cls := "SearchGrids$Cell", name := "finds", desc := "([I[I)J" } : Jvm.MethodName) ∈ sg_tbl := gd (i := 272) (by decide +kernel) rfl
theorem wd_235 : Jvm.Cond.instanceMethod ({ cls := "SearchGrids$Cell", name := "finds", desc := "([I[I)J" } : Jvm.MethodName) ∈ sg_tbl := gd (i := 274) (by decide +kernel) rfl
set_option maxRecDepth 100000 in
theorem wd_236 : Jvm.Cond.code ({ cls := "SearchGrids$Cell", name := "finds", desc := "([I[I)J" } : Jvm.MethodName) prog_2_method_5_code (3 : Nat) (Option.some Jvm.ClassFile.FieldType.long) ∈ sg_tbl := gd (i := 275) rfl rfl
theorem wd_237 : Jvm.Cond.methodLink "SearchGrids$Cell" (48 : Nat) ({ cls := "SearchGrids$Cell", name := "weight", desc := "()J" } : Jvm.MethodName) ∈ sg_tbl := gd (i := 276) (by decide +kernel) rfl
theorem wd_239 : Jvm.Cond.instanceMethod ({ cls := "SearchGrids$Cell", name := "weight", desc := "()J" } : Jvm.MethodName) ∈ sg_tbl := gd (i := 278) (by decide +kernel) rfl
set_option maxRecDepth 100000 in
theorem wd_240 : Jvm.Cond.code ({ cls := "SearchGrids$Cell", name := "weight", desc := "()J" } : Jvm.MethodName) prog_2_method_2_code (4 : Nat) (Option.some Jvm.ClassFile.FieldType.long) ∈ sg_tbl := gd (i := 279) rfl rfl
theorem wd_241 : Jvm.Cond.constantLong "SearchGrids$Cell" (52 : Nat) (268738560000 : Int64) ∈ sg_tbl := gd (i := 280) (by decide +kernel) rfl
theorem wd_242 : Jvm.Cond.methodLink "SearchGrids$Cell" (54 : Nat) ({ cls := "SearchGrids$Cell", name := "missed", desc := "([I[I)J" } : Jvm.MethodName) ∈ sg_tbl := gd (i := 281) (by decide +kernel) rfl
theorem wd_244 : Jvm.Cond.instanceMethod ({ cls := "SearchGrids$Cell", name := "missed", desc := "([I[I)J" } : Jvm.MethodName) ∈ sg_tbl := gd (i := 283) (by decide +kernel) rfl
set_option maxRecDepth 100000 in
theorem wd_245 : Jvm.Cond.code ({ cls := "SearchGrids$Cell", name := "missed", desc := "([I[I)J" } : Jvm.MethodName) prog_2_method_4_code (6 : Nat) (Option.some Jvm.ClassFile.FieldType.long) ∈ sg_tbl := gd (i := 284) rfl rfl
theorem wd_246 : Jvm.Cond.methodLink "SearchGrids$Cell" (44 : Nat) ({ cls := "SearchGrids$Cell", name := "missedBy", desc := "(II)J" } : Jvm.MethodName) ∈ sg_tbl := gd (i := 285) (by decide +kernel) rfl
theorem wd_248 : Jvm.Cond.instanceMethod ({ cls := "SearchGrids$Cell", name := "missedBy", desc := "(II)J" } : Jvm.MethodName) ∈ sg_tbl := gd (i := 287) (by decide +kernel) rfl
set_option maxRecDepth 100000 in
theorem wd_249 : Jvm.Cond.code ({ cls := "SearchGrids$Cell", name := "missedBy", desc := "(II)J" } : Jvm.MethodName) prog_2_method_3_code (4 : Nat) (Option.some Jvm.ClassFile.FieldType.long) ∈ sg_tbl := gd (i := 288) rfl rfl
theorem wd_250 : Jvm.Cond.methodLink "SearchGrids$Cell" (38 : Nat) ({ cls := "java/lang/Math", name := "min", desc := "(II)I" } : Jvm.MethodName) ∈ sg_tbl := gd (i := 289) (by decide +kernel) rfl
theorem wd_251 : Jvm.Cond.static ({ cls := "java/lang/Math", name := "min", desc := "(II)I" } : Jvm.MethodName) ∈ sg_tbl := gd (i := 290) (by decide +kernel) rfl
set_option maxRecDepth 100000 in
theorem wd_252 : Jvm.Cond.code ({ cls := "java/lang/Math", name := "min", desc := "(II)I" } : Jvm.MethodName) prog_7_method_69_code (2 : Nat) (Option.some Jvm.ClassFile.FieldType.int) ∈ sg_tbl := gd (i := 291) rfl rfl
theorem wd_253 : Jvm.Cond.methodLink "SearchGrids" (116 : Nat) ({ cls := "SearchGrids", name := "giveBestHour", desc := "()Z" } : Jvm.MethodName) ∈ sg_tbl := gd (i := 292) (by decide +kernel) rfl
theorem wd_255 : Jvm.Cond.instanceMethod ({ cls := "SearchGrids", name := "giveBestHour", desc := "()Z" } : Jvm.MethodName) ∈ sg_tbl := gd (i := 294) (by decide +kernel) rfl
set_option maxRecDepth 100000 in
theorem wd_256 : Jvm.Cond.code ({ cls := "SearchGrids", name := "giveBestHour", desc := "()Z" } : Jvm.MethodName) prog_1_method_33_code (8 : Nat) (Option.some Jvm.ClassFile.FieldType.boolean) ∈ sg_tbl := gd (i := 295) rfl rfl
theorem wd_257 : Jvm.Cond.methodLink "SearchGridsLaw" (48 : Nat) ({ cls := "SearchGrids", name := "of", desc := "(II)I" } : Jvm.MethodName) ∈ sg_tbl := gd (i := 296) (by decide +kernel) rfl
theorem wd_258 : Jvm.Cond.instanceMethod ({ cls := "SearchGrids", name := "of", desc := "(II)I" } : Jvm.MethodName) ∈ sg_tbl := gd (i := 297) (by decide +kernel) rfl
theorem wd_259 : Jvm.Cond.selects "SearchGrids" ({ cls := "SearchGrids", name := "of", desc := "(II)I" } : Jvm.MethodName) ({ cls := "SearchGrids", name := "of", desc := "(II)I" } : Jvm.MethodName) ∈ sg_tbl := gd (i := 298) (by decide +kernel) rfl
set_option maxRecDepth 100000 in
theorem wd_260 : Jvm.Cond.code ({ cls := "SearchGrids", name := "of", desc := "(II)I" } : Jvm.MethodName) prog_1_method_7_code (4 : Nat) (Option.some Jvm.ClassFile.FieldType.int) ∈ sg_tbl := gd (i := 299) rfl rfl
theorem wd_261 : Jvm.Cond.methodLink "SearchGridsLaw" (53 : Nat) ({ cls := "SearchGrids", name := "tried", desc := "()Z" } : Jvm.MethodName) ∈ sg_tbl := gd (i := 300) (by decide +kernel) rfl
theorem wd_262 : Jvm.Cond.instanceMethod ({ cls := "SearchGrids", name := "tried", desc := "()Z" } : Jvm.MethodName) ∈ sg_tbl := gd (i := 301) (by decide +kernel) rfl
theorem wd_263 : Jvm.Cond.selects "SearchGrids" ({ cls := "SearchGrids", name := "tried", desc := "()Z" } : Jvm.MethodName) ({ cls := "SearchGrids", name := "tried", desc := "()Z" } : Jvm.MethodName) ∈ sg_tbl := gd (i := 302) (by decide +kernel) rfl
set_option maxRecDepth 100000 in
theorem wd_264 : Jvm.Cond.code ({ cls := "SearchGrids", name := "tried", desc := "()Z" } : Jvm.MethodName) prog_1_method_8_code (2 : Nat) (Option.some Jvm.ClassFile.FieldType.boolean) ∈ sg_tbl := gd (i := 303) rfl rfl
theorem wd_265 : Jvm.Cond.methodLink "SearchGrids" (123 : Nat) ({ cls := "SearchGrids", name := "plannedHours", desc := "()I" } : Jvm.MethodName) ∈ sg_tbl := gd (i := 304) (by decide +kernel) rfl
theorem wd_267 : Jvm.Cond.instanceMethod ({ cls := "SearchGrids", name := "plannedHours", desc := "()I" } : Jvm.MethodName) ∈ sg_tbl := gd (i := 306) (by decide +kernel) rfl
set_option maxRecDepth 100000 in
theorem wd_268 : Jvm.Cond.code ({ cls := "SearchGrids", name := "plannedHours", desc := "()I" } : Jvm.MethodName) prog_1_method_34_code (3 : Nat) (Option.some Jvm.ClassFile.FieldType.int) ∈ sg_tbl := gd (i := 307) rfl rfl
theorem wd_269 : Jvm.Cond.methodLink "SearchGrids" (127 : Nat) ({ cls := "SearchGrids", name := "plannedFinds", desc := "()J" } : Jvm.MethodName) ∈ sg_tbl := gd (i := 308) (by decide +kernel) rfl
theorem wd_271 : Jvm.Cond.instanceMethod ({ cls := "SearchGrids", name := "plannedFinds", desc := "()J" } : Jvm.MethodName) ∈ sg_tbl := gd (i := 310) (by decide +kernel) rfl
set_option maxRecDepth 100000 in
theorem wd_272 : Jvm.Cond.code ({ cls := "SearchGrids", name := "plannedFinds", desc := "()J" } : Jvm.MethodName) prog_1_method_35_code (4 : Nat) (Option.some Jvm.ClassFile.FieldType.long) ∈ sg_tbl := gd (i := 311) rfl rfl
theorem wd_274 : Jvm.Cond.methodLink "SearchGrids" (130 : Nat) ({ cls := "SearchGrids", name := "isOutdone", desc := "(IIIJJ)Z" } : Jvm.MethodName) ∈ sg_tbl := gd (i := 313) (by decide +kernel) rfl
theorem wd_276 : Jvm.Cond.instanceMethod ({ cls := "SearchGrids", name := "isOutdone", desc := "(IIIJJ)Z" } : Jvm.MethodName) ∈ sg_tbl := gd (i := 315) (by decide +kernel) rfl
set_option maxRecDepth 100000 in
theorem wd_277 : Jvm.Cond.code ({ cls := "SearchGrids", name := "isOutdone", desc := "(IIIJJ)Z" } : Jvm.MethodName) prog_1_method_36_code (13 : Nat) (Option.some Jvm.ClassFile.FieldType.boolean) ∈ sg_tbl := gd (i := 316) rfl rfl
theorem wd_278 : Jvm.Cond.methodLink "SearchGrids" (223 : Nat) ({ cls := "java/lang/Math", name := "min", desc := "(II)I" } : Jvm.MethodName) ∈ sg_tbl := gd (i := 317) (by decide +kernel) rfl
theorem wd_279 : Jvm.Cond.methodLink "SearchGridsLaw" (58 : Nat) ({ cls := "SearchGrids", name := "look", desc := "(IIJJ)I" } : Jvm.MethodName) ∈ sg_tbl := gd (i := 318) (by decide +kernel) rfl
theorem wd_280 : Jvm.Cond.instanceMethod ({ cls := "SearchGrids", name := "look", desc := "(IIJJ)I" } : Jvm.MethodName) ∈ sg_tbl := gd (i := 319) (by decide +kernel) rfl
theorem wd_281 : Jvm.Cond.selects "SearchGrids" ({ cls := "SearchGrids", name := "look", desc := "(IIJJ)I" } : Jvm.MethodName) ({ cls := "SearchGrids", name := "look", desc := "(IIJJ)I" } : Jvm.MethodName) ∈ sg_tbl := gd (i := 320) (by decide +kernel) rfl
set_option maxRecDepth 100000 in
theorem wd_282 : Jvm.Cond.code ({ cls := "SearchGrids", name := "look", desc := "(IIJJ)I" } : Jvm.MethodName) prog_1_method_9_code (9 : Nat) (Option.some Jvm.ClassFile.FieldType.int) ∈ sg_tbl := gd (i := 321) rfl rfl
theorem wd_285 : Jvm.Cond.instanceMethod ({ cls := "SearchGrids$LookLog", name := "add", desc := "(IIIJ)I" } : Jvm.MethodName) ∈ sg_tbl := gd (i := 324) (by decide +kernel) rfl
set_option maxRecDepth 100000 in
theorem wd_286 : Jvm.Cond.code ({ cls := "SearchGrids$LookLog", name := "add", desc := "(IIIJ)I" } : Jvm.MethodName) prog_3_method_2_code (8 : Nat) (Option.some Jvm.ClassFile.FieldType.int) ∈ sg_tbl := gd (i := 325) rfl rfl
theorem wd_287 : Jvm.Cond.methodLink "SearchGridsLaw" (63 : Nat) ({ cls := "SearchGrids", name := "after", desc := "(II)J" } : Jvm.MethodName) ∈ sg_tbl := gd (i := 326) (by decide +kernel) rfl
theorem wd_288 : Jvm.Cond.instanceMethod ({ cls := "SearchGrids", name := "after", desc := "(II)J" } : Jvm.MethodName) ∈ sg_tbl := gd (i := 327) (by decide +kernel) rfl
theorem wd_289 : Jvm.Cond.selects "SearchGrids" ({ cls := "SearchGrids", name := "after", desc := "(II)J" } : Jvm.MethodName) ({ cls := "SearchGrids", name := "after", desc := "(II)J" } : Jvm.MethodName) ∈ sg_tbl := gd (i := 328) (by decide +kernel) rfl
set_option maxRecDepth 100000 in
theorem wd_290 : Jvm.Cond.code ({ cls := "SearchGrids", name := "after", desc := "(II)J" } : Jvm.MethodName) prog_1_method_10_code (4 : Nat) (Option.some Jvm.ClassFile.FieldType.long) ∈ sg_tbl := gd (i := 329) rfl rfl
theorem wd_293 : Jvm.Cond.instanceMethod ({ cls := "SearchGrids$Cell", name := "remains", desc := "([I)J" } : Jvm.MethodName) ∈ sg_tbl := gd (i := 332) (by decide +kernel) rfl
set_option maxRecDepth 100000 in
theorem wd_294 : Jvm.Cond.code ({ cls := "SearchGrids$Cell", name := "remains", desc := "([I)J" } : Jvm.MethodName) prog_2_method_6_code (2 : Nat) (Option.some Jvm.ClassFile.FieldType.long) ∈ sg_tbl := gd (i := 333) rfl rfl
theorem wd_295 : Jvm.Cond.methodLink "SearchGrids" (145 : Nat) ({ cls := "SearchGrids", name := "allRemains", desc := "()J" } : Jvm.MethodName) ∈ sg_tbl := gd (i := 334) (by decide +kernel) rfl
theorem wd_297 : Jvm.Cond.instanceMethod ({ cls := "SearchGrids", name := "allRemains", desc := "()J" } : Jvm.MethodName) ∈ sg_tbl := gd (i := 336) (by decide +kernel) rfl
set_option maxRecDepth 100000 in
theorem wd_298 : Jvm.Cond.code ({ cls := "SearchGrids", name := "allRemains", desc := "()J" } : Jvm.MethodName) prog_1_method_31_code (4 : Nat) (Option.some Jvm.ClassFile.FieldType.long) ∈ sg_tbl := gd (i := 337) rfl rfl
theorem wd_299 : Jvm.Cond.methodLink "SearchGridsLaw" (67 : Nat) ({ cls := "SearchGrids", name := "sums", desc := "()Z" } : Jvm.MethodName) ∈ sg_tbl := gd (i := 338) (by decide +kernel) rfl
theorem wd_300 : Jvm.Cond.instanceMethod ({ cls := "SearchGrids", name := "sums", desc := "()Z" } : Jvm.MethodName) ∈ sg_tbl := gd (i := 339) (by decide +kernel) rfl
theorem wd_301 : Jvm.Cond.selects "SearchGrids" ({ cls := "SearchGrids", name := "sums", desc := "()Z" } : Jvm.MethodName) ({ cls := "SearchGrids", name := "sums", desc := "()Z" } : Jvm.MethodName) ∈ sg_tbl := gd (i := 340) (by decide +kernel) rfl
set_option maxRecDepth 100000 in
theorem wd_302 : Jvm.Cond.code ({ cls := "SearchGrids", name := "sums", desc := "()Z" } : Jvm.MethodName) prog_1_method_11_code (1 : Nat) (Option.some Jvm.ClassFile.FieldType.boolean) ∈ sg_tbl := gd (i := 341) rfl rfl
theorem wd_303 : Jvm.Cond.methodLink "SearchGridsLaw" (71 : Nat) ({ cls := "SearchGrids", name := "found", desc := "(I)J" } : Jvm.MethodName) ∈ sg_tbl := gd (i := 342) (by decide +kernel) rfl
theorem wd_304 : Jvm.Cond.instanceMethod ({ cls := "SearchGrids", name := "found", desc := "(I)J" } : Jvm.MethodName) ∈ sg_tbl := gd (i := 343) (by decide +kernel) rfl
theorem wd_305 : Jvm.Cond.selects "SearchGrids" ({ cls := "SearchGrids", name := "found", desc := "(I)J" } : Jvm.MethodName) ({ cls := "SearchGrids", name := "found", desc := "(I)J" } : Jvm.MethodName) ∈ sg_tbl := gd (i := 344) (by decide +kernel) rfl
set_option maxRecDepth 100000 in
theorem wd_306 : Jvm.Cond.code ({ cls := "SearchGrids", name := "found", desc := "(I)J" } : Jvm.MethodName) prog_1_method_12_code (5 : Nat) (Option.some Jvm.ClassFile.FieldType.long) ∈ sg_tbl := gd (i := 345) rfl rfl
theorem wd_308 : Jvm.Cond.constantLong "SearchGrids" (151 : Nat) (268738560000 : Int64) ∈ sg_tbl := gd (i := 347) (by decide +kernel) rfl
theorem wd_309 : Jvm.Cond.methodLink "SearchGridsLaw" (76 : Nat) ({ cls := "SearchGrids", name := "line", desc := "(III)I" } : Jvm.MethodName) ∈ sg_tbl := gd (i := 348) (by decide +kernel) rfl
theorem wd_310 : Jvm.Cond.instanceMethod ({ cls := "SearchGrids", name := "line", desc := "(III)I" } : Jvm.MethodName) ∈ sg_tbl := gd (i := 349) (by decide +kernel) rfl
theorem wd_311 : Jvm.Cond.selects "SearchGrids" ({ cls := "SearchGrids", name := "line", desc := "(III)I" } : Jvm.MethodName) ({ cls := "SearchGrids", name := "line", desc := "(III)I" } : Jvm.MethodName) ∈ sg_tbl := gd (i := 350) (by decide +kernel) rfl
set_option maxRecDepth 100000 in
theorem wd_312 : Jvm.Cond.code ({ cls := "SearchGrids", name := "line", desc := "(III)I" } : Jvm.MethodName) prog_1_method_13_code (6 : Nat) (Option.some Jvm.ClassFile.FieldType.int) ∈ sg_tbl := gd (i := 351) rfl rfl
theorem wd_313 : Jvm.Cond.methodLink "SearchGrids" (156 : Nat) ({ cls := "SearchGrids", name := "rowWidth", desc := "(I)I" } : Jvm.MethodName) ∈ sg_tbl := gd (i := 352) (by decide +kernel) rfl
theorem wd_314 : Jvm.Cond.static ({ cls := "SearchGrids", name := "rowWidth", desc := "(I)I" } : Jvm.MethodName) ∈ sg_tbl := gd (i := 353) (by decide +kernel) rfl
set_option maxRecDepth 100000 in
theorem wd_315 : Jvm.Cond.code ({ cls := "SearchGrids", name := "rowWidth", desc := "(I)I" } : Jvm.MethodName) prog_1_method_39_code (3 : Nat) (Option.some Jvm.ClassFile.FieldType.int) ∈ sg_tbl := gd (i := 354) rfl rfl
theorem wd_316 : Jvm.Cond.methodLink "SearchGrids" (159 : Nat) ({ cls := "SearchGrids", name := "placeInRow", desc := "(II)I" } : Jvm.MethodName) ∈ sg_tbl := gd (i := 355) (by decide +kernel) rfl
theorem wd_317 : Jvm.Cond.static ({ cls := "SearchGrids", name := "placeInRow", desc := "(II)I" } : Jvm.MethodName) ∈ sg_tbl := gd (i := 356) (by decide +kernel) rfl
set_option maxRecDepth 100000 in
theorem wd_318 : Jvm.Cond.code ({ cls := "SearchGrids", name := "placeInRow", desc := "(II)I" } : Jvm.MethodName) prog_1_method_41_code (3 : Nat) (Option.some Jvm.ClassFile.FieldType.int) ∈ sg_tbl := gd (i := 357) rfl rfl
theorem wd_319 : Jvm.Cond.methodLink "SearchGrids" (163 : Nat) ({ cls := "SearchGrids", name := "rowOf", desc := "(II)I" } : Jvm.MethodName) ∈ sg_tbl := gd (i := 358) (by decide +kernel) rfl
theorem wd_320 : Jvm.Cond.static ({ cls := "SearchGrids", name := "rowOf", desc := "(II)I" } : Jvm.MethodName) ∈ sg_tbl := gd (i := 359) (by decide +kernel) rfl
set_option maxRecDepth 100000 in
theorem wd_321 : Jvm.Cond.code ({ cls := "SearchGrids", name := "rowOf", desc := "(II)I" } : Jvm.MethodName) prog_1_method_40_code (2 : Nat) (Option.some Jvm.ClassFile.FieldType.int) ∈ sg_tbl := gd (i := 360) rfl rfl
theorem wd_322 : Jvm.Cond.methodLink "SearchGridsLaw" (81 : Nat) ({ cls := "SearchGrids", name := "covers", desc := "(I)Z" } : Jvm.MethodName) ∈ sg_tbl := gd (i := 361) (by decide +kernel) rfl
theorem wd_323 : Jvm.Cond.instanceMethod ({ cls := "SearchGrids", name := "covers", desc := "(I)Z" } : Jvm.MethodName) ∈ sg_tbl := gd (i := 362) (by decide +kernel) rfl
theorem wd_324 : Jvm.Cond.selects "SearchGrids" ({ cls := "SearchGrids", name := "covers", desc := "(I)Z" } : Jvm.MethodName) ({ cls := "SearchGrids", name := "covers", desc := "(I)Z" } : Jvm.MethodName) ∈ sg_tbl := gd (i := 363) (by decide +kernel) rfl
set_option maxRecDepth 100000 in
theorem wd_325 : Jvm.Cond.code ({ cls := "SearchGrids", name := "covers", desc := "(I)Z" } : Jvm.MethodName) prog_1_method_14_code (7 : Nat) (Option.some Jvm.ClassFile.FieldType.boolean) ∈ sg_tbl := gd (i := 364) rfl rfl
theorem wd_326 : Jvm.Cond.methodLink "SearchGridsLaw" (86 : Nat) ({ cls := "SearchGrids", name := "rest", desc := "(III)Z" } : Jvm.MethodName) ∈ sg_tbl := gd (i := 365) (by decide +kernel) rfl
theorem wd_327 : Jvm.Cond.instanceMethod ({ cls := "SearchGrids", name := "rest", desc := "(III)Z" } : Jvm.MethodName) ∈ sg_tbl := gd (i := 366) (by decide +kernel) rfl
theorem wd_328 : Jvm.Cond.selects "SearchGrids" ({ cls := "SearchGrids", name := "rest", desc := "(III)Z" } : Jvm.MethodName) ({ cls := "SearchGrids", name := "rest", desc := "(III)Z" } : Jvm.MethodName) ∈ sg_tbl := gd (i := 367) (by decide +kernel) rfl
set_option maxRecDepth 100000 in
theorem wd_329 : Jvm.Cond.code ({ cls := "SearchGrids", name := "rest", desc := "(III)Z" } : Jvm.MethodName) prog_1_method_15_code (4 : Nat) (Option.some Jvm.ClassFile.FieldType.boolean) ∈ sg_tbl := gd (i := 368) rfl rfl
theorem wd_330 : Jvm.Cond.methodLink "SearchGridsLaw" (91 : Nat) ({ cls := "SearchGrids", name := "thing", desc := "()I" } : Jvm.MethodName) ∈ sg_tbl := gd (i := 369) (by decide +kernel) rfl
theorem wd_331 : Jvm.Cond.instanceMethod ({ cls := "SearchGrids", name := "thing", desc := "()I" } : Jvm.MethodName) ∈ sg_tbl := gd (i := 370) (by decide +kernel) rfl
theorem wd_332 : Jvm.Cond.selects "SearchGrids" ({ cls := "SearchGrids", name := "thing", desc := "()I" } : Jvm.MethodName) ({ cls := "SearchGrids", name := "thing", desc := "()I" } : Jvm.MethodName) ∈ sg_tbl := gd (i := 371) (by decide +kernel) rfl
set_option maxRecDepth 100000 in
theorem wd_333 : Jvm.Cond.code ({ cls := "SearchGrids", name := "thing", desc := "()I" } : Jvm.MethodName) prog_1_method_16_code (2 : Nat) (Option.some Jvm.ClassFile.FieldType.int) ∈ sg_tbl := gd (i := 372) rfl rfl
theorem wd_334 : Jvm.Cond.methodLink "SearchGridsLaw" (96 : Nat) ({ cls := "SearchGrids", name := "countsOf", desc := "(IIJ)Z" } : Jvm.MethodName) ∈ sg_tbl := gd (i := 373) (by decide +kernel) rfl
theorem wd_335 : Jvm.Cond.methodLink "SearchGridsLaw" (101 : Nat) ({ cls := "SearchGrids", name := "stop", desc := "(JJ)Z" } : Jvm.MethodName) ∈ sg_tbl := gd (i := 374) (by decide +kernel) rfl
theorem wd_336 : Jvm.Cond.instanceMethod ({ cls := "SearchGrids", name := "stop", desc := "(JJ)Z" } : Jvm.MethodName) ∈ sg_tbl := gd (i := 375) (by decide +kernel) rfl
theorem wd_337 : Jvm.Cond.selects "SearchGrids" ({ cls := "SearchGrids", name := "stop", desc := "(JJ)Z" } : Jvm.MethodName) ({ cls := "SearchGrids", name := "stop", desc := "(JJ)Z" } : Jvm.MethodName) ∈ sg_tbl := gd (i := 376) (by decide +kernel) rfl
set_option maxRecDepth 100000 in
theorem wd_338 : Jvm.Cond.code ({ cls := "SearchGrids", name := "stop", desc := "(JJ)Z" } : Jvm.MethodName) prog_1_method_18_code (5 : Nat) (Option.some Jvm.ClassFile.FieldType.boolean) ∈ sg_tbl := gd (i := 377) rfl rfl
theorem wd_339 : Jvm.Cond.methodLink "SearchGridsLaw" (106 : Nat) ({ cls := "SearchGrids", name := "stops", desc := "()I" } : Jvm.MethodName) ∈ sg_tbl := gd (i := 378) (by decide +kernel) rfl
theorem wd_340 : Jvm.Cond.instanceMethod ({ cls := "SearchGrids", name := "stops", desc := "()I" } : Jvm.MethodName) ∈ sg_tbl := gd (i := 379) (by decide +kernel) rfl
theorem wd_341 : Jvm.Cond.selects "SearchGrids" ({ cls := "SearchGrids", name := "stops", desc := "()I" } : Jvm.MethodName) ({ cls := "SearchGrids", name := "stops", desc := "()I" } : Jvm.MethodName) ∈ sg_tbl := gd (i := 380) (by decide +kernel) rfl
set_option maxRecDepth 100000 in
theorem wd_342 : Jvm.Cond.code ({ cls := "SearchGrids", name := "stops", desc := "()I" } : Jvm.MethodName) prog_1_method_19_code (3 : Nat) (Option.some Jvm.ClassFile.FieldType.int) ∈ sg_tbl := gd (i := 381) rfl rfl
theorem wd_343 : Jvm.Cond.methodLink "SearchGridsLaw" (110 : Nat) ({ cls := "SearchGrids", name := "order", desc := "(I)I" } : Jvm.MethodName) ∈ sg_tbl := gd (i := 382) (by decide +kernel) rfl
theorem wd_344 : Jvm.Cond.instanceMethod ({ cls := "SearchGrids", name := "order", desc := "(I)I" } : Jvm.MethodName) ∈ sg_tbl := gd (i := 383) (by decide +kernel) rfl
theorem wd_345 : Jvm.Cond.selects "SearchGrids" ({ cls := "SearchGrids", name := "order", desc := "(I)I" } : Jvm.MethodName) ({ cls := "SearchGrids", name := "order", desc := "(I)I" } : Jvm.MethodName) ∈ sg_tbl := gd (i := 384) (by decide +kernel) rfl
set_option maxRecDepth 100000 in
theorem wd_346 : Jvm.Cond.code ({ cls := "SearchGrids", name := "order", desc := "(I)I" } : Jvm.MethodName) prog_1_method_20_code (3 : Nat) (Option.some Jvm.ClassFile.FieldType.int) ∈ sg_tbl := gd (i := 385) rfl rfl
theorem wd_347 : Jvm.Cond.methodLink "SearchGrids" (176 : Nat) ({ cls := "SearchGrids", name := "standingOf", desc := "(LSearchGrids$Cell;)J" } : Jvm.MethodName) ∈ sg_tbl := gd (i := 386) (by decide +kernel) rfl
theorem wd_349 : Jvm.Cond.instanceMethod ({ cls := "SearchGrids", name := "standingOf", desc := "(LSearchGrids$Cell;)J" } : Jvm.MethodName) ∈ sg_tbl := gd (i := 388) (by decide +kernel) rfl
set_option maxRecDepth 100000 in
theorem wd_350 : Jvm.Cond.code ({ cls := "SearchGrids", name := "standingOf", desc := "(LSearchGrids$Cell;)J" } : Jvm.MethodName) prog_1_method_37_code (2 : Nat) (Option.some Jvm.ClassFile.FieldType.long) ∈ sg_tbl := gd (i := 389) rfl rfl
theorem wd_351 : Jvm.Cond.methodLink "SearchGrids" (183 : Nat) ({ cls := "SearchGrids", name := "countBefore", desc := "(I)I" } : Jvm.MethodName) ∈ sg_tbl := gd (i := 390) (by decide +kernel) rfl
theorem wd_353 : Jvm.Cond.instanceMethod ({ cls := "SearchGrids", name := "countBefore", desc := "(I)I" } : Jvm.MethodName) ∈ sg_tbl := gd (i := 392) (by decide +kernel) rfl
set_option maxRecDepth 100000 in
theorem wd_354 : Jvm.Cond.code ({ cls := "SearchGrids", name := "countBefore", desc := "(I)I" } : Jvm.MethodName) prog_1_method_38_code (6 : Nat) (Option.some Jvm.ClassFile.FieldType.int) ∈ sg_tbl := gd (i := 393) rfl rfl
theorem wd_355 : Jvm.Cond.methodLink "SearchGridsLaw" (114 : Nat) ({ cls := "SearchGrids", name := "seen", desc := "(II)Z" } : Jvm.MethodName) ∈ sg_tbl := gd (i := 394) (by decide +kernel) rfl
theorem wd_356 : Jvm.Cond.instanceMethod ({ cls := "SearchGrids", name := "seen", desc := "(II)Z" } : Jvm.MethodName) ∈ sg_tbl := gd (i := 395) (by decide +kernel) rfl
theorem wd_357 : Jvm.Cond.selects "SearchGrids" ({ cls := "SearchGrids", name := "seen", desc := "(II)Z" } : Jvm.MethodName) ({ cls := "SearchGrids", name := "seen", desc := "(II)Z" } : Jvm.MethodName) ∈ sg_tbl := gd (i := 396) (by decide +kernel) rfl
set_option maxRecDepth 100000 in
theorem wd_358 : Jvm.Cond.code ({ cls := "SearchGrids", name := "seen", desc := "(II)Z" } : Jvm.MethodName) prog_1_method_21_code (4 : Nat) (Option.some Jvm.ClassFile.FieldType.boolean) ∈ sg_tbl := gd (i := 397) rfl rfl
theorem wd_359 : Jvm.Cond.methodLink "SearchGridsLaw" (118 : Nat) ({ cls := "SearchGrids", name := "log", desc := "(II)I" } : Jvm.MethodName) ∈ sg_tbl := gd (i := 398) (by decide +kernel) rfl
theorem wd_360 : Jvm.Cond.instanceMethod ({ cls := "SearchGrids", name := "log", desc := "(II)I" } : Jvm.MethodName) ∈ sg_tbl := gd (i := 399) (by decide +kernel) rfl
theorem wd_361 : Jvm.Cond.selects "SearchGrids" ({ cls := "SearchGrids", name := "log", desc := "(II)I" } : Jvm.MethodName) ({ cls := "SearchGrids", name := "log", desc := "(II)I" } : Jvm.MethodName) ∈ sg_tbl := gd (i := 400) (by decide +kernel) rfl
set_option maxRecDepth 100000 in
theorem wd_362 : Jvm.Cond.code ({ cls := "SearchGrids", name := "log", desc := "(II)I" } : Jvm.MethodName) prog_1_method_22_code (4 : Nat) (Option.some Jvm.ClassFile.FieldType.int) ∈ sg_tbl := gd (i := 401) rfl rfl
theorem wd_363 : Jvm.Cond.methodLink "SearchGridsLaw" (122 : Nat) ({ cls := "SearchGrids", name := "area", desc := "(IJ)Z" } : Jvm.MethodName) ∈ sg_tbl := gd (i := 402) (by decide +kernel) rfl
theorem wd_364 : Jvm.Cond.instanceMethod ({ cls := "SearchGrids", name := "area", desc := "(IJ)Z" } : Jvm.MethodName) ∈ sg_tbl := gd (i := 403) (by decide +kernel) rfl
theorem wd_365 : Jvm.Cond.selects "SearchGrids" ({ cls := "SearchGrids", name := "area", desc := "(IJ)Z" } : Jvm.MethodName) ({ cls := "SearchGrids", name := "area", desc := "(IJ)Z" } : Jvm.MethodName) ∈ sg_tbl := gd (i := 404) (by decide +kernel) rfl
set_option maxRecDepth 100000 in
theorem wd_366 : Jvm.Cond.code ({ cls := "SearchGrids", name := "area", desc := "(IJ)Z" } : Jvm.MethodName) prog_1_method_23_code (6 : Nat) (Option.some Jvm.ClassFile.FieldType.boolean) ∈ sg_tbl := gd (i := 405) rfl rfl
theorem wd_367 : Jvm.Cond.constantLong "SearchGrids" (199 : Nat) (720 : Int64) ∈ sg_tbl := gd (i := 406) (by decide +kernel) rfl
theorem wd_368 : Jvm.Cond.methodLink "SearchGridsLaw" (9 : Nat) ({ cls := "SearchGridsLaw", name := "cell", desc := "([II)I" } : Jvm.MethodName) ∈ sg_tbl := gd (i := 407) (by decide +kernel) rfl
theorem wd_369 : Jvm.Cond.static ({ cls := "SearchGridsLaw", name := "cell", desc := "([II)I" } : Jvm.MethodName) ∈ sg_tbl := gd (i := 408) (by decide +kernel) rfl
set_option maxRecDepth 100000 in
theorem wd_370 : Jvm.Cond.code ({ cls := "SearchGridsLaw", name := "cell", desc := "([II)I" } : Jvm.MethodName) method_2_code (2 : Nat) (Option.some Jvm.ClassFile.FieldType.int) ∈ sg_tbl := gd (i := 409) rfl rfl
theorem wd_371 : Jvm.Cond.classLink "SearchGridsLaw" (18 : Nat) "SearchGridsModel" ∈ sg_tbl := gd (i := 410) (by decide +kernel) rfl
theorem wd_372 : Jvm.Cond.instantiable "SearchGridsModel" (21 : Nat) ∈ sg_tbl := gd (i := 411) (by decide +kernel) rfl
theorem wd_373 : Jvm.Cond.methodLink "SearchGridsLaw" (20 : Nat) ({ cls := "SearchGridsModel", name := "<init>", desc := "(I)V" } : Jvm.MethodName) ∈ sg_tbl := gd (i := 412) (by decide +kernel) rfl
theorem wd_374 : Jvm.Cond.instanceMethod ({ cls := "SearchGridsModel", name := "<init>", desc := "(I)V" } : Jvm.MethodName) ∈ sg_tbl := gd (i := 413) (by decide +kernel) rfl
set_option maxRecDepth 100000 in
theorem wd_375 : Jvm.Cond.code ({ cls := "SearchGridsModel", name := "<init>", desc := "(I)V" } : Jvm.MethodName) prog_6_method_1_code (2 : Nat) (Option.none : Option Jvm.ClassFile.FieldType) ∈ sg_tbl := gd (i := 414) rfl rfl
theorem wd_376 : Jvm.Cond.methodLink "SearchGridsModel" (1 : Nat) ({ cls := "java/lang/Object", name := "<init>", desc := "()V" } : Jvm.MethodName) ∈ sg_tbl := gd (i := 415) (by decide +kernel) rfl
theorem wd_377 : Jvm.Cond.constant "SearchGridsModel" (58 : Nat) (65536 : Int32) ∈ sg_tbl := gd (i := 416) (by decide +kernel) rfl
theorem wd_378 : Jvm.Cond.fieldLink "SearchGridsModel" (59 : Nat) "SearchGridsModel" "cells" "I" ∈ sg_tbl := gd (i := 417) (by decide +kernel) rfl
theorem wd_379 : Jvm.Cond.fieldLink "SearchGridsModel" (65 : Nat) "SearchGridsModel" "told" "I" ∈ sg_tbl := gd (i := 418) (by decide +kernel) rfl
theorem wd_380 : Jvm.Cond.fieldLink "SearchGridsModel" (7 : Nat) "SearchGridsModel" "cell" "[I" ∈ sg_tbl := gd (i := 419) (by decide +kernel) rfl
theorem wd_381 : Jvm.Cond.fieldLink "SearchGridsModel" (13 : Nat) "SearchGridsModel" "areas" "[I" ∈ sg_tbl := gd (i := 420) (by decide +kernel) rfl
theorem wd_382 : Jvm.Cond.fieldLink "SearchGridsModel" (16 : Nat) "SearchGridsModel" "count" "[I" ∈ sg_tbl := gd (i := 421) (by decide +kernel) rfl
theorem wd_383 : Jvm.Cond.fieldLink "SearchGridsModel" (19 : Nat) "SearchGridsModel" "things" "I" ∈ sg_tbl := gd (i := 422) (by decide +kernel) rfl
theorem wd_384 : Jvm.Cond.fieldLink "SearchGridsModel" (62 : Nat) "SearchGridsModel" "lookers" "I" ∈ sg_tbl := gd (i := 423) (by decide +kernel) rfl
theorem wd_385 : Jvm.Cond.fieldLink "SearchGridsModel" (23 : Nat) "SearchGridsModel" "rate" "[I" ∈ sg_tbl := gd (i := 424) (by decide +kernel) rfl
theorem wd_386 : Jvm.Cond.fieldLink "SearchGridsModel" (26 : Nat) "SearchGridsModel" "hours" "[I" ∈ sg_tbl := gd (i := 425) (by decide +kernel) rfl
theorem wd_387 : Jvm.Cond.fieldLink "SearchGridsModel" (29 : Nat) "SearchGridsModel" "barred" "[Z" ∈ sg_tbl := gd (i := 426) (by decide +kernel) rfl
theorem wd_388 : Jvm.Cond.fieldLink "SearchGridsModel" (33 : Nat) "SearchGridsModel" "plan" "[I" ∈ sg_tbl := gd (i := 427) (by decide +kernel) rfl
theorem wd_389 : Jvm.Cond.fieldLink "SearchGridsModel" (36 : Nat) "SearchGridsModel" "trial" "[I" ∈ sg_tbl := gd (i := 428) (by decide +kernel) rfl
theorem wd_390 : Jvm.Cond.fieldLink "SearchGridsModel" (39 : Nat) "SearchGridsModel" "looked" "[I" ∈ sg_tbl := gd (i := 429) (by decide +kernel) rfl
theorem wd_391 : Jvm.Cond.fieldLink "SearchGridsModel" (92 : Nat) "SearchGridsModel" "looks" "I" ∈ sg_tbl := gd (i := 430) (by decide +kernel) rfl
theorem wd_392 : Jvm.Cond.fieldLink "SearchGridsModel" (42 : Nat) "SearchGridsModel" "lookLooker" "[I" ∈ sg_tbl := gd (i := 431) (by decide +kernel) rfl
theorem wd_393 : Jvm.Cond.fieldLink "SearchGridsModel" (45 : Nat) "SearchGridsModel" "lookCell" "[I" ∈ sg_tbl := gd (i := 432) (by decide +kernel) rfl
theorem wd_394 : Jvm.Cond.fieldLink "SearchGridsModel" (48 : Nat) "SearchGridsModel" "lookHours" "[I" ∈ sg_tbl := gd (i := 433) (by decide +kernel) rfl
theorem wd_395 : Jvm.Cond.fieldLink "SearchGridsModel" (51 : Nat) "SearchGridsModel" "lookTold" "[J" ∈ sg_tbl := gd (i := 434) (by decide +kernel) rfl
theorem wd_396 : Jvm.Cond.fieldLink "SearchGridsModel" (55 : Nat) "SearchGridsModel" "seenAt" "I" ∈ sg_tbl := gd (i := 435) (by decide +kernel) rfl
theorem wd_397 : Jvm.Cond.fieldLink "SearchGridsModel" (106 : Nat) "SearchGridsModel" "above" "J" ∈ sg_tbl := gd (i := 436) (by decide +kernel) rfl
theorem wd_398 : Jvm.Cond.fieldLink "SearchGridsModel" (110 : Nat) "SearchGridsModel" "below" "J" ∈ sg_tbl := gd (i := 437) (by decide +kernel) rfl
theorem wd_399 : Jvm.Cond.laysFinal "SearchGridsModel" "SearchGridsModel" "cells" "I" ∈ sg_tbl := gd (i := 438) (by decide +kernel) rfl
theorem wd_401 : Jvm.Cond.lays "SearchGridsModel" "SearchGridsModel" "told" "I" ∈ sg_tbl := gd (i := 440) (by decide +kernel) rfl
theorem wd_403 : Jvm.Cond.laysFinal "SearchGridsModel" "SearchGridsModel" "cell" "[I" ∈ sg_tbl := gd (i := 442) (by decide +kernel) rfl
theorem wd_405 : Jvm.Cond.laysFinal "SearchGridsModel" "SearchGridsModel" "areas" "[I" ∈ sg_tbl := gd (i := 444) (by decide +kernel) rfl
theorem wd_407 : Jvm.Cond.laysFinal "SearchGridsModel" "SearchGridsModel" "count" "[I" ∈ sg_tbl := gd (i := 446) (by decide +kernel) rfl
theorem wd_409 : Jvm.Cond.lays "SearchGridsModel" "SearchGridsModel" "things" "I" ∈ sg_tbl := gd (i := 448) (by decide +kernel) rfl
theorem wd_411 : Jvm.Cond.lays "SearchGridsModel" "SearchGridsModel" "lookers" "I" ∈ sg_tbl := gd (i := 450) (by decide +kernel) rfl
theorem wd_413 : Jvm.Cond.laysFinal "SearchGridsModel" "SearchGridsModel" "rate" "[I" ∈ sg_tbl := gd (i := 452) (by decide +kernel) rfl
theorem wd_415 : Jvm.Cond.laysFinal "SearchGridsModel" "SearchGridsModel" "hours" "[I" ∈ sg_tbl := gd (i := 454) (by decide +kernel) rfl
theorem wd_417 : Jvm.Cond.laysFinal "SearchGridsModel" "SearchGridsModel" "barred" "[Z" ∈ sg_tbl := gd (i := 456) (by decide +kernel) rfl
theorem wd_419 : Jvm.Cond.laysFinal "SearchGridsModel" "SearchGridsModel" "plan" "[I" ∈ sg_tbl := gd (i := 458) (by decide +kernel) rfl
theorem wd_421 : Jvm.Cond.laysFinal "SearchGridsModel" "SearchGridsModel" "trial" "[I" ∈ sg_tbl := gd (i := 460) (by decide +kernel) rfl
theorem wd_423 : Jvm.Cond.laysFinal "SearchGridsModel" "SearchGridsModel" "looked" "[I" ∈ sg_tbl := gd (i := 462) (by decide +kernel) rfl
theorem wd_425 : Jvm.Cond.lays "SearchGridsModel" "SearchGridsModel" "looks" "I" ∈ sg_tbl := gd (i := 464) (by decide +kernel) rfl
theorem wd_427 : Jvm.Cond.laysFinal "SearchGridsModel" "SearchGridsModel" "lookLooker" "[I" ∈ sg_tbl := gd (i := 466) (by decide +kernel) rfl
theorem wd_429 : Jvm.Cond.laysFinal "SearchGridsModel" "SearchGridsModel" "lookCell" "[I" ∈ sg_tbl := gd (i := 468) (by decide +kernel) rfl
theorem wd_431 : Jvm.Cond.laysFinal "SearchGridsModel" "SearchGridsModel" "lookHours" "[I" ∈ sg_tbl := gd (i := 470) (by decide +kernel) rfl
theorem wd_433 : Jvm.Cond.laysFinal "SearchGridsModel" "SearchGridsModel" "lookTold" "[J" ∈ sg_tbl := gd (i := 472) (by decide +kernel) rfl
theorem wd_435 : Jvm.Cond.lays "SearchGridsModel" "SearchGridsModel" "seenAt" "I" ∈ sg_tbl := gd (i := 474) (by decide +kernel) rfl
theorem wd_437 : Jvm.Cond.lays "SearchGridsModel" "SearchGridsModel" "above" "J" ∈ sg_tbl := gd (i := 476) (by decide +kernel) rfl
theorem wd_439 : Jvm.Cond.lays "SearchGridsModel" "SearchGridsModel" "below" "J" ∈ sg_tbl := gd (i := 478) (by decide +kernel) rfl
theorem wd_442 : Jvm.Cond.methodLink "SearchGridsLaw" (27 : Nat) ({ cls := "SearchGridsModel", name := "counts", desc := "(IJ)Z" } : Jvm.MethodName) ∈ sg_tbl := gd (i := 481) (by decide +kernel) rfl
theorem wd_443 : Jvm.Cond.instanceMethod ({ cls := "SearchGridsModel", name := "counts", desc := "(IJ)Z" } : Jvm.MethodName) ∈ sg_tbl := gd (i := 482) (by decide +kernel) rfl
theorem wd_444 : Jvm.Cond.selects "SearchGridsModel" ({ cls := "SearchGridsModel", name := "counts", desc := "(IJ)Z" } : Jvm.MethodName) ({ cls := "SearchGridsModel", name := "counts", desc := "(IJ)Z" } : Jvm.MethodName) ∈ sg_tbl := gd (i := 483) (by decide +kernel) rfl
set_option maxRecDepth 100000 in
theorem wd_445 : Jvm.Cond.code ({ cls := "SearchGridsModel", name := "counts", desc := "(IJ)Z" } : Jvm.MethodName) prog_6_method_8_code (4 : Nat) (Option.some Jvm.ClassFile.FieldType.boolean) ∈ sg_tbl := gd (i := 484) rfl rfl
theorem wd_446 : Jvm.Cond.methodLink "SearchGridsModel" (76 : Nat) ({ cls := "SearchGridsModel", name := "countsOf", desc := "(IIJ)Z" } : Jvm.MethodName) ∈ sg_tbl := gd (i := 485) (by decide +kernel) rfl
theorem wd_447 : Jvm.Cond.instanceMethod ({ cls := "SearchGridsModel", name := "countsOf", desc := "(IIJ)Z" } : Jvm.MethodName) ∈ sg_tbl := gd (i := 486) (by decide +kernel) rfl
theorem wd_448 : Jvm.Cond.selects "SearchGridsModel" ({ cls := "SearchGridsModel", name := "countsOf", desc := "(IIJ)Z" } : Jvm.MethodName) ({ cls := "SearchGridsModel", name := "countsOf", desc := "(IIJ)Z" } : Jvm.MethodName) ∈ sg_tbl := gd (i := 487) (by decide +kernel) rfl
set_option maxRecDepth 100000 in
theorem wd_449 : Jvm.Cond.code ({ cls := "SearchGridsModel", name := "countsOf", desc := "(IIJ)Z" } : Jvm.MethodName) prog_6_method_9_code (6 : Nat) (Option.some Jvm.ClassFile.FieldType.boolean) ∈ sg_tbl := gd (i := 488) rfl rfl
theorem wd_450 : Jvm.Cond.methodLink "SearchGridsModel" (80 : Nat) ({ cls := "SearchGridsModel", name := "isCell", desc := "(I)Z" } : Jvm.MethodName) ∈ sg_tbl := gd (i := 489) (by decide +kernel) rfl
theorem wd_452 : Jvm.Cond.instanceMethod ({ cls := "SearchGridsModel", name := "isCell", desc := "(I)Z" } : Jvm.MethodName) ∈ sg_tbl := gd (i := 491) (by decide +kernel) rfl
set_option maxRecDepth 100000 in
theorem wd_453 : Jvm.Cond.code ({ cls := "SearchGridsModel", name := "isCell", desc := "(I)Z" } : Jvm.MethodName) prog_6_method_2_code (2 : Nat) (Option.some Jvm.ClassFile.FieldType.boolean) ∈ sg_tbl := gd (i := 492) rfl rfl
theorem wd_454 : Jvm.Cond.constantLong "SearchGridsModel" (84 : Nat) (1000 : Int64) ∈ sg_tbl := gd (i := 493) (by decide +kernel) rfl
theorem wd_455 : Jvm.Cond.methodLink "SearchGridsModel" (68 : Nat) ({ cls := "SearchGridsModel", name := "place", desc := "(I)I" } : Jvm.MethodName) ∈ sg_tbl := gd (i := 494) (by decide +kernel) rfl
theorem wd_457 : Jvm.Cond.instanceMethod ({ cls := "SearchGridsModel", name := "place", desc := "(I)I" } : Jvm.MethodName) ∈ sg_tbl := gd (i := 496) (by decide +kernel) rfl
set_option maxRecDepth 100000 in
theorem wd_458 : Jvm.Cond.code ({ cls := "SearchGridsModel", name := "place", desc := "(I)I" } : Jvm.MethodName) prog_6_method_4_code (3 : Nat) (Option.some Jvm.ClassFile.FieldType.int) ∈ sg_tbl := gd (i := 497) rfl rfl
theorem wd_459 : Jvm.Cond.methodLink "SearchGridsModel" (86 : Nat) ({ cls := "SearchGridsModel", name := "tell", desc := "(I)I" } : Jvm.MethodName) ∈ sg_tbl := gd (i := 498) (by decide +kernel) rfl
theorem wd_461 : Jvm.Cond.instanceMethod ({ cls := "SearchGridsModel", name := "tell", desc := "(I)I" } : Jvm.MethodName) ∈ sg_tbl := gd (i := 500) (by decide +kernel) rfl
set_option maxRecDepth 100000 in
theorem wd_462 : Jvm.Cond.code ({ cls := "SearchGridsModel", name := "tell", desc := "(I)I" } : Jvm.MethodName) prog_6_method_5_code (5 : Nat) (Option.some Jvm.ClassFile.FieldType.int) ∈ sg_tbl := gd (i := 501) rfl rfl
theorem wd_463 : Jvm.Cond.methodLink "SearchGridsModel" (72 : Nat) ({ cls := "SearchGridsModel", name := "move", desc := "(II)V" } : Jvm.MethodName) ∈ sg_tbl := gd (i := 502) (by decide +kernel) rfl
theorem wd_465 : Jvm.Cond.instanceMethod ({ cls := "SearchGridsModel", name := "move", desc := "(II)V" } : Jvm.MethodName) ∈ sg_tbl := gd (i := 504) (by decide +kernel) rfl
set_option maxRecDepth 100000 in
theorem wd_466 : Jvm.Cond.code ({ cls := "SearchGridsModel", name := "move", desc := "(II)V" } : Jvm.MethodName) prog_6_method_6_code (4 : Nat) (Option.none : Option Jvm.ClassFile.FieldType) ∈ sg_tbl := gd (i := 505) rfl rfl
theorem wd_467 : Jvm.Cond.methodLink "SearchGridsModel" (89 : Nat) ({ cls := "SearchGridsModel", name := "changed", desc := "()V" } : Jvm.MethodName) ∈ sg_tbl := gd (i := 506) (by decide +kernel) rfl
theorem wd_469 : Jvm.Cond.instanceMethod ({ cls := "SearchGridsModel", name := "changed", desc := "()V" } : Jvm.MethodName) ∈ sg_tbl := gd (i := 508) (by decide +kernel) rfl
set_option maxRecDepth 100000 in
theorem wd_470 : Jvm.Cond.code ({ cls := "SearchGridsModel", name := "changed", desc := "()V" } : Jvm.MethodName) prog_6_method_7_code (2 : Nat) (Option.none : Option Jvm.ClassFile.FieldType) ∈ sg_tbl := gd (i := 509) rfl rfl
theorem wd_471 : Jvm.Cond.methodLink "SearchGridsLaw" (100 : Nat) ({ cls := "SearchGridsModel", name := "countsOf", desc := "(IIJ)Z" } : Jvm.MethodName) ∈ sg_tbl := gd (i := 510) (by decide +kernel) rfl
theorem wd_472 : Jvm.Cond.methodLink "SearchGridsLaw" (37 : Nat) ({ cls := "SearchGridsModel", name := "looker", desc := "(JJI)I" } : Jvm.MethodName) ∈ sg_tbl := gd (i := 511) (by decide +kernel) rfl
theorem wd_473 : Jvm.Cond.instanceMethod ({ cls := "SearchGridsModel", name := "looker", desc := "(JJI)I" } : Jvm.MethodName) ∈ sg_tbl := gd (i := 512) (by decide +kernel) rfl
theorem wd_474 : Jvm.Cond.selects "SearchGridsModel" ({ cls := "SearchGridsModel", name := "looker", desc := "(JJI)I" } : Jvm.MethodName) ({ cls := "SearchGridsModel", name := "looker", desc := "(JJI)I" } : Jvm.MethodName) ∈ sg_tbl := gd (i := 513) (by decide +kernel) rfl
set_option maxRecDepth 100000 in
theorem wd_475 : Jvm.Cond.code ({ cls := "SearchGridsModel", name := "looker", desc := "(JJI)I" } : Jvm.MethodName) prog_6_method_10_code (6 : Nat) (Option.some Jvm.ClassFile.FieldType.int) ∈ sg_tbl := gd (i := 514) rfl rfl
theorem wd_476 : Jvm.Cond.methodLink "SearchGridsLaw" (42 : Nat) ({ cls := "SearchGridsModel", name := "bar", desc := "(II)Z" } : Jvm.MethodName) ∈ sg_tbl := gd (i := 515) (by decide +kernel) rfl
theorem wd_477 : Jvm.Cond.instanceMethod ({ cls := "SearchGridsModel", name := "bar", desc := "(II)Z" } : Jvm.MethodName) ∈ sg_tbl := gd (i := 516) (by decide +kernel) rfl
theorem wd_478 : Jvm.Cond.selects "SearchGridsModel" ({ cls := "SearchGridsModel", name := "bar", desc := "(II)Z" } : Jvm.MethodName) ({ cls := "SearchGridsModel", name := "bar", desc := "(II)Z" } : Jvm.MethodName) ∈ sg_tbl := gd (i := 517) (by decide +kernel) rfl
set_option maxRecDepth 100000 in
theorem wd_479 : Jvm.Cond.code ({ cls := "SearchGridsModel", name := "bar", desc := "(II)Z" } : Jvm.MethodName) prog_6_method_11_code (3 : Nat) (Option.some Jvm.ClassFile.FieldType.boolean) ∈ sg_tbl := gd (i := 518) rfl rfl
theorem wd_480 : Jvm.Cond.methodLink "SearchGridsModel" (95 : Nat) ({ cls := "SearchGridsModel", name := "rest", desc := "(III)Z" } : Jvm.MethodName) ∈ sg_tbl := gd (i := 519) (by decide +kernel) rfl
theorem wd_481 : Jvm.Cond.instanceMethod ({ cls := "SearchGridsModel", name := "rest", desc := "(III)Z" } : Jvm.MethodName) ∈ sg_tbl := gd (i := 520) (by decide +kernel) rfl
theorem wd_482 : Jvm.Cond.selects "SearchGridsModel" ({ cls := "SearchGridsModel", name := "rest", desc := "(III)Z" } : Jvm.MethodName) ({ cls := "SearchGridsModel", name := "rest", desc := "(III)Z" } : Jvm.MethodName) ∈ sg_tbl := gd (i := 521) (by decide +kernel) rfl
set_option maxRecDepth 100000 in
theorem wd_483 : Jvm.Cond.code ({ cls := "SearchGridsModel", name := "rest", desc := "(III)Z" } : Jvm.MethodName) prog_6_method_12_code (5 : Nat) (Option.some Jvm.ClassFile.FieldType.boolean) ∈ sg_tbl := gd (i := 522) rfl rfl
theorem wd_484 : Jvm.Cond.methodLink "SearchGridsModel" (99 : Nat) ({ cls := "SearchGridsModel", name := "isLooker", desc := "(I)Z" } : Jvm.MethodName) ∈ sg_tbl := gd (i := 523) (by decide +kernel) rfl
theorem wd_486 : Jvm.Cond.instanceMethod ({ cls := "SearchGridsModel", name := "isLooker", desc := "(I)Z" } : Jvm.MethodName) ∈ sg_tbl := gd (i := 525) (by decide +kernel) rfl
set_option maxRecDepth 100000 in
theorem wd_487 : Jvm.Cond.code ({ cls := "SearchGridsModel", name := "isLooker", desc := "(I)Z" } : Jvm.MethodName) prog_6_method_3_code (2 : Nat) (Option.some Jvm.ClassFile.FieldType.boolean) ∈ sg_tbl := gd (i := 526) rfl rfl
theorem wd_488 : Jvm.Cond.methodLink "SearchGridsLaw" (90 : Nat) ({ cls := "SearchGridsModel", name := "rest", desc := "(III)Z" } : Jvm.MethodName) ∈ sg_tbl := gd (i := 527) (by decide +kernel) rfl
theorem wd_489 : Jvm.Cond.methodLink "SearchGridsLaw" (95 : Nat) ({ cls := "SearchGridsModel", name := "thing", desc := "()I" } : Jvm.MethodName) ∈ sg_tbl := gd (i := 528) (by decide +kernel) rfl
theorem wd_490 : Jvm.Cond.instanceMethod ({ cls := "SearchGridsModel", name := "thing", desc := "()I" } : Jvm.MethodName) ∈ sg_tbl := gd (i := 529) (by decide +kernel) rfl
theorem wd_491 : Jvm.Cond.selects "SearchGridsModel" ({ cls := "SearchGridsModel", name := "thing", desc := "()I" } : Jvm.MethodName) ({ cls := "SearchGridsModel", name := "thing", desc := "()I" } : Jvm.MethodName) ∈ sg_tbl := gd (i := 530) (by decide +kernel) rfl
set_option maxRecDepth 100000 in
theorem wd_492 : Jvm.Cond.code ({ cls := "SearchGridsModel", name := "thing", desc := "()I" } : Jvm.MethodName) prog_6_method_13_code (1 : Nat) (Option.some Jvm.ClassFile.FieldType.int) ∈ sg_tbl := gd (i := 531) rfl rfl
theorem wd_493 : Jvm.Cond.methodLink "SearchGridsLaw" (125 : Nat) ({ cls := "SearchGridsModel", name := "area", desc := "(IJ)Z" } : Jvm.MethodName) ∈ sg_tbl := gd (i := 532) (by decide +kernel) rfl
theorem wd_494 : Jvm.Cond.instanceMethod ({ cls := "SearchGridsModel", name := "area", desc := "(IJ)Z" } : Jvm.MethodName) ∈ sg_tbl := gd (i := 533) (by decide +kernel) rfl
theorem wd_495 : Jvm.Cond.selects "SearchGridsModel" ({ cls := "SearchGridsModel", name := "area", desc := "(IJ)Z" } : Jvm.MethodName) ({ cls := "SearchGridsModel", name := "area", desc := "(IJ)Z" } : Jvm.MethodName) ∈ sg_tbl := gd (i := 534) (by decide +kernel) rfl
set_option maxRecDepth 100000 in
theorem wd_496 : Jvm.Cond.code ({ cls := "SearchGridsModel", name := "area", desc := "(IJ)Z" } : Jvm.MethodName) prog_6_method_14_code (5 : Nat) (Option.some Jvm.ClassFile.FieldType.boolean) ∈ sg_tbl := gd (i := 535) rfl rfl
theorem wd_497 : Jvm.Cond.constantLong "SearchGridsModel" (102 : Nat) (720 : Int64) ∈ sg_tbl := gd (i := 536) (by decide +kernel) rfl
theorem wd_498 : Jvm.Cond.methodLink "SearchGridsLaw" (105 : Nat) ({ cls := "SearchGridsModel", name := "stop", desc := "(JJ)Z" } : Jvm.MethodName) ∈ sg_tbl := gd (i := 537) (by decide +kernel) rfl
theorem wd_499 : Jvm.Cond.instanceMethod ({ cls := "SearchGridsModel", name := "stop", desc := "(JJ)Z" } : Jvm.MethodName) ∈ sg_tbl := gd (i := 538) (by decide +kernel) rfl
theorem wd_500 : Jvm.Cond.selects "SearchGridsModel" ({ cls := "SearchGridsModel", name := "stop", desc := "(JJ)Z" } : Jvm.MethodName) ({ cls := "SearchGridsModel", name := "stop", desc := "(JJ)Z" } : Jvm.MethodName) ∈ sg_tbl := gd (i := 539) (by decide +kernel) rfl
set_option maxRecDepth 100000 in
theorem wd_501 : Jvm.Cond.code ({ cls := "SearchGridsModel", name := "stop", desc := "(JJ)Z" } : Jvm.MethodName) prog_6_method_15_code (5 : Nat) (Option.some Jvm.ClassFile.FieldType.boolean) ∈ sg_tbl := gd (i := 540) rfl rfl
theorem wd_502 : Jvm.Cond.constantLong "SearchGridsModel" (104 : Nat) (100 : Int64) ∈ sg_tbl := gd (i := 541) (by decide +kernel) rfl
theorem wd_503 : Jvm.Cond.methodLink "SearchGridsLaw" (47 : Nat) ({ cls := "SearchGridsModel", name := "share", desc := "(I)I" } : Jvm.MethodName) ∈ sg_tbl := gd (i := 542) (by decide +kernel) rfl
theorem wd_504 : Jvm.Cond.instanceMethod ({ cls := "SearchGridsModel", name := "share", desc := "(I)I" } : Jvm.MethodName) ∈ sg_tbl := gd (i := 543) (by decide +kernel) rfl
theorem wd_505 : Jvm.Cond.selects "SearchGridsModel" ({ cls := "SearchGridsModel", name := "share", desc := "(I)I" } : Jvm.MethodName) ({ cls := "SearchGridsModel", name := "share", desc := "(I)I" } : Jvm.MethodName) ∈ sg_tbl := gd (i := 544) (by decide +kernel) rfl
set_option maxRecDepth 100000 in
theorem wd_506 : Jvm.Cond.code ({ cls := "SearchGridsModel", name := "share", desc := "(I)I" } : Jvm.MethodName) prog_6_method_22_code (13 : Nat) (Option.some Jvm.ClassFile.FieldType.int) ∈ sg_tbl := gd (i := 545) rfl rfl
theorem wd_507 : Jvm.Cond.methodLink "SearchGridsModel" (126 : Nat) ({ cls := "SearchGridsModel", name := "worth", desc := "([I)J" } : Jvm.MethodName) ∈ sg_tbl := gd (i := 546) (by decide +kernel) rfl
theorem wd_509 : Jvm.Cond.instanceMethod ({ cls := "SearchGridsModel", name := "worth", desc := "([I)J" } : Jvm.MethodName) ∈ sg_tbl := gd (i := 548) (by decide +kernel) rfl
set_option maxRecDepth 100000 in
theorem wd_510 : Jvm.Cond.code ({ cls := "SearchGridsModel", name := "worth", desc := "([I)J" } : Jvm.MethodName) prog_6_method_18_code (5 : Nat) (Option.some Jvm.ClassFile.FieldType.long) ∈ sg_tbl := gd (i := 549) rfl rfl
theorem wd_511 : Jvm.Cond.methodLink "SearchGridsModel" (113 : Nat) ({ cls := "SearchGridsModel", name := "weight", desc := "(I)I" } : Jvm.MethodName) ∈ sg_tbl := gd (i := 550) (by decide +kernel) rfl
theorem wd_513 : Jvm.Cond.instanceMethod ({ cls := "SearchGridsModel", name := "weight", desc := "(I)I" } : Jvm.MethodName) ∈ sg_tbl := gd (i := 552) (by decide +kernel) rfl
set_option maxRecDepth 100000 in
theorem wd_514 : Jvm.Cond.code ({ cls := "SearchGridsModel", name := "weight", desc := "(I)I" } : Jvm.MethodName) prog_6_method_17_code (2 : Nat) (Option.some Jvm.ClassFile.FieldType.int) ∈ sg_tbl := gd (i := 553) rfl rfl
theorem wd_515 : Jvm.Cond.constantLong "SearchGridsModel" (116 : Nat) (268738560000 : Int64) ∈ sg_tbl := gd (i := 554) (by decide +kernel) rfl
theorem wd_516 : Jvm.Cond.methodLink "SearchGridsModel" (118 : Nat) ({ cls := "SearchGridsModel", name := "missed", desc := "([II)J" } : Jvm.MethodName) ∈ sg_tbl := gd (i := 555) (by decide +kernel) rfl
theorem wd_518 : Jvm.Cond.instanceMethod ({ cls := "SearchGridsModel", name := "missed", desc := "([II)J" } : Jvm.MethodName) ∈ sg_tbl := gd (i := 557) (by decide +kernel) rfl
set_option maxRecDepth 100000 in
theorem wd_519 : Jvm.Cond.code ({ cls := "SearchGridsModel", name := "missed", desc := "([II)J" } : Jvm.MethodName) prog_6_method_16_code (8 : Nat) (Option.some Jvm.ClassFile.FieldType.long) ∈ sg_tbl := gd (i := 558) rfl rfl
theorem wd_520 : Jvm.Cond.methodLink "SearchGridsModel" (122 : Nat) ({ cls := "SearchGridsModel", name := "given", desc := "([II)I" } : Jvm.MethodName) ∈ sg_tbl := gd (i := 559) (by decide +kernel) rfl
theorem wd_522 : Jvm.Cond.instanceMethod ({ cls := "SearchGridsModel", name := "given", desc := "([II)I" } : Jvm.MethodName) ∈ sg_tbl := gd (i := 561) (by decide +kernel) rfl
set_option maxRecDepth 100000 in
theorem wd_523 : Jvm.Cond.code ({ cls := "SearchGridsModel", name := "given", desc := "([II)I" } : Jvm.MethodName) prog_6_method_20_code (5 : Nat) (Option.some Jvm.ClassFile.FieldType.int) ∈ sg_tbl := gd (i := 562) rfl rfl
theorem wd_524 : Jvm.Cond.methodLink "SearchGridsModel" (130 : Nat) ({ cls := "SearchGridsModel", name := "use", desc := "(I)I" } : Jvm.MethodName) ∈ sg_tbl := gd (i := 563) (by decide +kernel) rfl
theorem wd_526 : Jvm.Cond.instanceMethod ({ cls := "SearchGridsModel", name := "use", desc := "(I)I" } : Jvm.MethodName) ∈ sg_tbl := gd (i := 565) (by decide +kernel) rfl
set_option maxRecDepth 100000 in
theorem wd_527 : Jvm.Cond.code ({ cls := "SearchGridsModel", name := "use", desc := "(I)I" } : Jvm.MethodName) prog_6_method_19_code (4 : Nat) (Option.some Jvm.ClassFile.FieldType.int) ∈ sg_tbl := gd (i := 566) rfl rfl
theorem wd_528 : Jvm.Cond.methodLink "SearchGridsModel" (133 : Nat) ({ cls := "SearchGridsModel", name := "size", desc := "()I" } : Jvm.MethodName) ∈ sg_tbl := gd (i := 567) (by decide +kernel) rfl
theorem wd_530 : Jvm.Cond.instanceMethod ({ cls := "SearchGridsModel", name := "size", desc := "()I" } : Jvm.MethodName) ∈ sg_tbl := gd (i := 569) (by decide +kernel) rfl
set_option maxRecDepth 100000 in
theorem wd_531 : Jvm.Cond.code ({ cls := "SearchGridsModel", name := "size", desc := "()I" } : Jvm.MethodName) prog_6_method_21_code (3 : Nat) (Option.some Jvm.ClassFile.FieldType.int) ∈ sg_tbl := gd (i := 570) rfl rfl
theorem wd_532 : Jvm.Cond.methodLink "SearchGridsLaw" (52 : Nat) ({ cls := "SearchGridsModel", name := "of", desc := "(II)I" } : Jvm.MethodName) ∈ sg_tbl := gd (i := 571) (by decide +kernel) rfl
theorem wd_533 : Jvm.Cond.instanceMethod ({ cls := "SearchGridsModel", name := "of", desc := "(II)I" } : Jvm.MethodName) ∈ sg_tbl := gd (i := 572) (by decide +kernel) rfl
theorem wd_534 : Jvm.Cond.selects "SearchGridsModel" ({ cls := "SearchGridsModel", name := "of", desc := "(II)I" } : Jvm.MethodName) ({ cls := "SearchGridsModel", name := "of", desc := "(II)I" } : Jvm.MethodName) ∈ sg_tbl := gd (i := 573) (by decide +kernel) rfl
set_option maxRecDepth 100000 in
theorem wd_535 : Jvm.Cond.code ({ cls := "SearchGridsModel", name := "of", desc := "(II)I" } : Jvm.MethodName) prog_6_method_23_code (3 : Nat) (Option.some Jvm.ClassFile.FieldType.int) ∈ sg_tbl := gd (i := 574) rfl rfl
theorem wd_536 : Jvm.Cond.methodLink "SearchGridsLaw" (57 : Nat) ({ cls := "SearchGridsModel", name := "tried", desc := "()Z" } : Jvm.MethodName) ∈ sg_tbl := gd (i := 575) (by decide +kernel) rfl
theorem wd_537 : Jvm.Cond.instanceMethod ({ cls := "SearchGridsModel", name := "tried", desc := "()Z" } : Jvm.MethodName) ∈ sg_tbl := gd (i := 576) (by decide +kernel) rfl
theorem wd_538 : Jvm.Cond.selects "SearchGridsModel" ({ cls := "SearchGridsModel", name := "tried", desc := "()Z" } : Jvm.MethodName) ({ cls := "SearchGridsModel", name := "tried", desc := "()Z" } : Jvm.MethodName) ∈ sg_tbl := gd (i := 577) (by decide +kernel) rfl
set_option maxRecDepth 100000 in
theorem wd_539 : Jvm.Cond.code ({ cls := "SearchGridsModel", name := "tried", desc := "()Z" } : Jvm.MethodName) prog_6_method_24_code (5 : Nat) (Option.some Jvm.ClassFile.FieldType.boolean) ∈ sg_tbl := gd (i := 578) rfl rfl
theorem wd_540 : Jvm.Cond.methodLink "SearchGridsModel" (137 : Nat) ({ cls := "SearchGridsModel", name := "isBetter", desc := "(IIJ)Z" } : Jvm.MethodName) ∈ sg_tbl := gd (i := 579) (by decide +kernel) rfl
theorem wd_542 : Jvm.Cond.instanceMethod ({ cls := "SearchGridsModel", name := "isBetter", desc := "(IIJ)Z" } : Jvm.MethodName) ∈ sg_tbl := gd (i := 581) (by decide +kernel) rfl
set_option maxRecDepth 100000 in
theorem wd_543 : Jvm.Cond.code ({ cls := "SearchGridsModel", name := "isBetter", desc := "(IIJ)Z" } : Jvm.MethodName) prog_6_method_25_code (9 : Nat) (Option.some Jvm.ClassFile.FieldType.boolean) ∈ sg_tbl := gd (i := 582) rfl rfl
theorem wd_544 : Jvm.Cond.methodLink "SearchGridsModel" (140 : Nat) ({ cls := "SearchGridsModel", name := "slot", desc := "(I)I" } : Jvm.MethodName) ∈ sg_tbl := gd (i := 583) (by decide +kernel) rfl
theorem wd_546 : Jvm.Cond.instanceMethod ({ cls := "SearchGridsModel", name := "slot", desc := "(I)I" } : Jvm.MethodName) ∈ sg_tbl := gd (i := 585) (by decide +kernel) rfl
set_option maxRecDepth 100000 in
theorem wd_547 : Jvm.Cond.code ({ cls := "SearchGridsModel", name := "slot", desc := "(I)I" } : Jvm.MethodName) prog_6_method_26_code (2 : Nat) (Option.some Jvm.ClassFile.FieldType.int) ∈ sg_tbl := gd (i := 586) rfl rfl
theorem wd_548 : Jvm.Cond.methodLink "SearchGridsLaw" (32 : Nat) ({ cls := "SearchGridsModel", name := "odds", desc := "(II)J" } : Jvm.MethodName) ∈ sg_tbl := gd (i := 587) (by decide +kernel) rfl
theorem wd_549 : Jvm.Cond.instanceMethod ({ cls := "SearchGridsModel", name := "odds", desc := "(II)J" } : Jvm.MethodName) ∈ sg_tbl := gd (i := 588) (by decide +kernel) rfl
theorem wd_550 : Jvm.Cond.selects "SearchGridsModel" ({ cls := "SearchGridsModel", name := "odds", desc := "(II)J" } : Jvm.MethodName) ({ cls := "SearchGridsModel", name := "odds", desc := "(II)J" } : Jvm.MethodName) ∈ sg_tbl := gd (i := 589) (by decide +kernel) rfl
set_option maxRecDepth 100000 in
theorem wd_551 : Jvm.Cond.code ({ cls := "SearchGridsModel", name := "odds", desc := "(II)J" } : Jvm.MethodName) prog_6_method_31_code (4 : Nat) (Option.some Jvm.ClassFile.FieldType.long) ∈ sg_tbl := gd (i := 590) rfl rfl
theorem wd_552 : Jvm.Cond.constantLong "SearchGridsModel" (143 : Nat) (-1 : Int64) ∈ sg_tbl := gd (i := 591) (by decide +kernel) rfl
theorem wd_553 : Jvm.Cond.methodLink "SearchGridsModel" (149 : Nat) ({ cls := "SearchGridsModel", name := "all", desc := "()J" } : Jvm.MethodName) ∈ sg_tbl := gd (i := 592) (by decide +kernel) rfl
theorem wd_555 : Jvm.Cond.instanceMethod ({ cls := "SearchGridsModel", name := "all", desc := "()J" } : Jvm.MethodName) ∈ sg_tbl := gd (i := 594) (by decide +kernel) rfl
set_option maxRecDepth 100000 in
theorem wd_556 : Jvm.Cond.code ({ cls := "SearchGridsModel", name := "all", desc := "()J" } : Jvm.MethodName) prog_6_method_29_code (4 : Nat) (Option.some Jvm.ClassFile.FieldType.long) ∈ sg_tbl := gd (i := 595) rfl rfl
theorem wd_557 : Jvm.Cond.methodLink "SearchGridsModel" (153 : Nat) ({ cls := "SearchGridsModel", name := "part", desc := "(JJI)J" } : Jvm.MethodName) ∈ sg_tbl := gd (i := 596) (by decide +kernel) rfl
theorem wd_558 : Jvm.Cond.static ({ cls := "SearchGridsModel", name := "part", desc := "(JJI)J" } : Jvm.MethodName) ∈ sg_tbl := gd (i := 597) (by decide +kernel) rfl
set_option maxRecDepth 100000 in
theorem wd_559 : Jvm.Cond.code ({ cls := "SearchGridsModel", name := "part", desc := "(JJI)J" } : Jvm.MethodName) prog_6_method_28_code (7 : Nat) (Option.some Jvm.ClassFile.FieldType.long) ∈ sg_tbl := gd (i := 598) rfl rfl
theorem wd_560 : Jvm.Cond.methodLink "SearchGridsModel" (145 : Nat) ({ cls := "SearchGridsModel", name := "common", desc := "(JJ)J" } : Jvm.MethodName) ∈ sg_tbl := gd (i := 599) (by decide +kernel) rfl
theorem wd_561 : Jvm.Cond.static ({ cls := "SearchGridsModel", name := "common", desc := "(JJ)J" } : Jvm.MethodName) ∈ sg_tbl := gd (i := 600) (by decide +kernel) rfl
set_option maxRecDepth 100000 in
theorem wd_562 : Jvm.Cond.code ({ cls := "SearchGridsModel", name := "common", desc := "(JJ)J" } : Jvm.MethodName) prog_6_method_27_code (10 : Nat) (Option.some Jvm.ClassFile.FieldType.long) ∈ sg_tbl := gd (i := 601) rfl rfl
theorem wd_563 : Jvm.Cond.methodLink "SearchGridsLaw" (66 : Nat) ({ cls := "SearchGridsModel", name := "after", desc := "(II)J" } : Jvm.MethodName) ∈ sg_tbl := gd (i := 602) (by decide +kernel) rfl
theorem wd_564 : Jvm.Cond.instanceMethod ({ cls := "SearchGridsModel", name := "after", desc := "(II)J" } : Jvm.MethodName) ∈ sg_tbl := gd (i := 603) (by decide +kernel) rfl
theorem wd_565 : Jvm.Cond.selects "SearchGridsModel" ({ cls := "SearchGridsModel", name := "after", desc := "(II)J" } : Jvm.MethodName) ({ cls := "SearchGridsModel", name := "after", desc := "(II)J" } : Jvm.MethodName) ∈ sg_tbl := gd (i := 604) (by decide +kernel) rfl
set_option maxRecDepth 100000 in
theorem wd_566 : Jvm.Cond.code ({ cls := "SearchGridsModel", name := "after", desc := "(II)J" } : Jvm.MethodName) prog_6_method_32_code (4 : Nat) (Option.some Jvm.ClassFile.FieldType.long) ∈ sg_tbl := gd (i := 605) rfl rfl
theorem wd_567 : Jvm.Cond.methodLink "SearchGridsModel" (157 : Nat) ({ cls := "SearchGridsModel", name := "left", desc := "()J" } : Jvm.MethodName) ∈ sg_tbl := gd (i := 606) (by decide +kernel) rfl
theorem wd_569 : Jvm.Cond.instanceMethod ({ cls := "SearchGridsModel", name := "left", desc := "()J" } : Jvm.MethodName) ∈ sg_tbl := gd (i := 608) (by decide +kernel) rfl
set_option maxRecDepth 100000 in
theorem wd_570 : Jvm.Cond.code ({ cls := "SearchGridsModel", name := "left", desc := "()J" } : Jvm.MethodName) prog_6_method_30_code (4 : Nat) (Option.some Jvm.ClassFile.FieldType.long) ∈ sg_tbl := gd (i := 609) rfl rfl
theorem wd_571 : Jvm.Cond.methodLink "SearchGridsLaw" (70 : Nat) ({ cls := "SearchGridsModel", name := "sums", desc := "()Z" } : Jvm.MethodName) ∈ sg_tbl := gd (i := 610) (by decide +kernel) rfl
theorem wd_572 : Jvm.Cond.instanceMethod ({ cls := "SearchGridsModel", name := "sums", desc := "()Z" } : Jvm.MethodName) ∈ sg_tbl := gd (i := 611) (by decide +kernel) rfl
theorem wd_573 : Jvm.Cond.selects "SearchGridsModel" ({ cls := "SearchGridsModel", name := "sums", desc := "()Z" } : Jvm.MethodName) ({ cls := "SearchGridsModel", name := "sums", desc := "()Z" } : Jvm.MethodName) ∈ sg_tbl := gd (i := 612) (by decide +kernel) rfl
set_option maxRecDepth 100000 in
theorem wd_574 : Jvm.Cond.code ({ cls := "SearchGridsModel", name := "sums", desc := "()Z" } : Jvm.MethodName) prog_6_method_33_code (1 : Nat) (Option.some Jvm.ClassFile.FieldType.boolean) ∈ sg_tbl := gd (i := 613) rfl rfl
theorem wd_575 : Jvm.Cond.methodLink "SearchGridsLaw" (75 : Nat) ({ cls := "SearchGridsModel", name := "found", desc := "(I)J" } : Jvm.MethodName) ∈ sg_tbl := gd (i := 614) (by decide +kernel) rfl
theorem wd_576 : Jvm.Cond.instanceMethod ({ cls := "SearchGridsModel", name := "found", desc := "(I)J" } : Jvm.MethodName) ∈ sg_tbl := gd (i := 615) (by decide +kernel) rfl
theorem wd_577 : Jvm.Cond.selects "SearchGridsModel" ({ cls := "SearchGridsModel", name := "found", desc := "(I)J" } : Jvm.MethodName) ({ cls := "SearchGridsModel", name := "found", desc := "(I)J" } : Jvm.MethodName) ∈ sg_tbl := gd (i := 616) (by decide +kernel) rfl
set_option maxRecDepth 100000 in
theorem wd_578 : Jvm.Cond.code ({ cls := "SearchGridsModel", name := "found", desc := "(I)J" } : Jvm.MethodName) prog_6_method_34_code (5 : Nat) (Option.some Jvm.ClassFile.FieldType.long) ∈ sg_tbl := gd (i := 617) rfl rfl
theorem wd_579 : Jvm.Cond.methodLink "SearchGridsLaw" (62 : Nat) ({ cls := "SearchGridsModel", name := "look", desc := "(IIJJ)I" } : Jvm.MethodName) ∈ sg_tbl := gd (i := 618) (by decide +kernel) rfl
theorem wd_580 : Jvm.Cond.instanceMethod ({ cls := "SearchGridsModel", name := "look", desc := "(IIJJ)I" } : Jvm.MethodName) ∈ sg_tbl := gd (i := 619) (by decide +kernel) rfl
theorem wd_581 : Jvm.Cond.selects "SearchGridsModel" ({ cls := "SearchGridsModel", name := "look", desc := "(IIJJ)I" } : Jvm.MethodName) ({ cls := "SearchGridsModel", name := "look", desc := "(IIJJ)I" } : Jvm.MethodName) ∈ sg_tbl := gd (i := 620) (by decide +kernel) rfl
set_option maxRecDepth 100000 in
theorem wd_582 : Jvm.Cond.code ({ cls := "SearchGridsModel", name := "look", desc := "(IIJJ)I" } : Jvm.MethodName) prog_6_method_35_code (7 : Nat) (Option.some Jvm.ClassFile.FieldType.int) ∈ sg_tbl := gd (i := 621) rfl rfl
theorem wd_583 : Jvm.Cond.methodLink "SearchGridsLaw" (117 : Nat) ({ cls := "SearchGridsModel", name := "seen", desc := "(II)Z" } : Jvm.MethodName) ∈ sg_tbl := gd (i := 622) (by decide +kernel) rfl
theorem wd_584 : Jvm.Cond.instanceMethod ({ cls := "SearchGridsModel", name := "seen", desc := "(II)Z" } : Jvm.MethodName) ∈ sg_tbl := gd (i := 623) (by decide +kernel) rfl
theorem wd_585 : Jvm.Cond.selects "SearchGridsModel" ({ cls := "SearchGridsModel", name := "seen", desc := "(II)Z" } : Jvm.MethodName) ({ cls := "SearchGridsModel", name := "seen", desc := "(II)Z" } : Jvm.MethodName) ∈ sg_tbl := gd (i := 624) (by decide +kernel) rfl
set_option maxRecDepth 100000 in
theorem wd_586 : Jvm.Cond.code ({ cls := "SearchGridsModel", name := "seen", desc := "(II)Z" } : Jvm.MethodName) prog_6_method_36_code (3 : Nat) (Option.some Jvm.ClassFile.FieldType.boolean) ∈ sg_tbl := gd (i := 625) rfl rfl
theorem wd_587 : Jvm.Cond.methodLink "SearchGridsLaw" (109 : Nat) ({ cls := "SearchGridsModel", name := "stops", desc := "()I" } : Jvm.MethodName) ∈ sg_tbl := gd (i := 626) (by decide +kernel) rfl
theorem wd_588 : Jvm.Cond.instanceMethod ({ cls := "SearchGridsModel", name := "stops", desc := "()I" } : Jvm.MethodName) ∈ sg_tbl := gd (i := 627) (by decide +kernel) rfl
theorem wd_589 : Jvm.Cond.selects "SearchGridsModel" ({ cls := "SearchGridsModel", name := "stops", desc := "()I" } : Jvm.MethodName) ({ cls := "SearchGridsModel", name := "stops", desc := "()I" } : Jvm.MethodName) ∈ sg_tbl := gd (i := 628) (by decide +kernel) rfl
set_option maxRecDepth 100000 in
theorem wd_590 : Jvm.Cond.code ({ cls := "SearchGridsModel", name := "stops", desc := "()I" } : Jvm.MethodName) prog_6_method_37_code (1 : Nat) (Option.some Jvm.ClassFile.FieldType.int) ∈ sg_tbl := gd (i := 629) rfl rfl
theorem wd_591 : Jvm.Cond.methodLink "SearchGridsLaw" (113 : Nat) ({ cls := "SearchGridsModel", name := "order", desc := "(I)I" } : Jvm.MethodName) ∈ sg_tbl := gd (i := 630) (by decide +kernel) rfl
theorem wd_592 : Jvm.Cond.instanceMethod ({ cls := "SearchGridsModel", name := "order", desc := "(I)I" } : Jvm.MethodName) ∈ sg_tbl := gd (i := 631) (by decide +kernel) rfl
theorem wd_593 : Jvm.Cond.selects "SearchGridsModel" ({ cls := "SearchGridsModel", name := "order", desc := "(I)I" } : Jvm.MethodName) ({ cls := "SearchGridsModel", name := "order", desc := "(I)I" } : Jvm.MethodName) ∈ sg_tbl := gd (i := 632) (by decide +kernel) rfl
set_option maxRecDepth 100000 in
theorem wd_594 : Jvm.Cond.code ({ cls := "SearchGridsModel", name := "order", desc := "(I)I" } : Jvm.MethodName) prog_6_method_39_code (5 : Nat) (Option.some Jvm.ClassFile.FieldType.int) ∈ sg_tbl := gd (i := 633) rfl rfl
theorem wd_595 : Jvm.Cond.methodLink "SearchGridsModel" (160 : Nat) ({ cls := "SearchGridsModel", name := "rank", desc := "(I)J" } : Jvm.MethodName) ∈ sg_tbl := gd (i := 634) (by decide +kernel) rfl
theorem wd_597 : Jvm.Cond.instanceMethod ({ cls := "SearchGridsModel", name := "rank", desc := "(I)J" } : Jvm.MethodName) ∈ sg_tbl := gd (i := 636) (by decide +kernel) rfl
set_option maxRecDepth 100000 in
theorem wd_598 : Jvm.Cond.code ({ cls := "SearchGridsModel", name := "rank", desc := "(I)J" } : Jvm.MethodName) prog_6_method_38_code (2 : Nat) (Option.some Jvm.ClassFile.FieldType.long) ∈ sg_tbl := gd (i := 637) rfl rfl
theorem wd_599 : Jvm.Cond.methodLink "SearchGridsLaw" (121 : Nat) ({ cls := "SearchGridsModel", name := "log", desc := "(II)I" } : Jvm.MethodName) ∈ sg_tbl := gd (i := 638) (by decide +kernel) rfl
theorem wd_600 : Jvm.Cond.instanceMethod ({ cls := "SearchGridsModel", name := "log", desc := "(II)I" } : Jvm.MethodName) ∈ sg_tbl := gd (i := 639) (by decide +kernel) rfl
theorem wd_601 : Jvm.Cond.selects "SearchGridsModel" ({ cls := "SearchGridsModel", name := "log", desc := "(II)I" } : Jvm.MethodName) ({ cls := "SearchGridsModel", name := "log", desc := "(II)I" } : Jvm.MethodName) ∈ sg_tbl := gd (i := 640) (by decide +kernel) rfl
set_option maxRecDepth 100000 in
theorem wd_602 : Jvm.Cond.code ({ cls := "SearchGridsModel", name := "log", desc := "(II)I" } : Jvm.MethodName) prog_6_method_40_code (6 : Nat) (Option.some Jvm.ClassFile.FieldType.int) ∈ sg_tbl := gd (i := 641) rfl rfl
theorem wd_603 : Jvm.Cond.methodLink "SearchGridsLaw" (80 : Nat) ({ cls := "SearchGridsModel", name := "line", desc := "(III)I" } : Jvm.MethodName) ∈ sg_tbl := gd (i := 642) (by decide +kernel) rfl
theorem wd_604 : Jvm.Cond.instanceMethod ({ cls := "SearchGridsModel", name := "line", desc := "(III)I" } : Jvm.MethodName) ∈ sg_tbl := gd (i := 643) (by decide +kernel) rfl
theorem wd_605 : Jvm.Cond.selects "SearchGridsModel" ({ cls := "SearchGridsModel", name := "line", desc := "(III)I" } : Jvm.MethodName) ({ cls := "SearchGridsModel", name := "line", desc := "(III)I" } : Jvm.MethodName) ∈ sg_tbl := gd (i := 644) (by decide +kernel) rfl
set_option maxRecDepth 100000 in
theorem wd_606 : Jvm.Cond.code ({ cls := "SearchGridsModel", name := "line", desc := "(III)I" } : Jvm.MethodName) prog_6_method_41_code (7 : Nat) (Option.some Jvm.ClassFile.FieldType.int) ∈ sg_tbl := gd (i := 645) rfl rfl
theorem wd_607 : Jvm.Cond.methodLink "SearchGridsLaw" (85 : Nat) ({ cls := "SearchGridsModel", name := "covers", desc := "(I)Z" } : Jvm.MethodName) ∈ sg_tbl := gd (i := 646) (by decide +kernel) rfl
theorem wd_608 : Jvm.Cond.instanceMethod ({ cls := "SearchGridsModel", name := "covers", desc := "(I)Z" } : Jvm.MethodName) ∈ sg_tbl := gd (i := 647) (by decide +kernel) rfl
theorem wd_609 : Jvm.Cond.selects "SearchGridsModel" ({ cls := "SearchGridsModel", name := "covers", desc := "(I)Z" } : Jvm.MethodName) ({ cls := "SearchGridsModel", name := "covers", desc := "(I)Z" } : Jvm.MethodName) ∈ sg_tbl := gd (i := 648) (by decide +kernel) rfl
set_option maxRecDepth 100000 in
theorem wd_610 : Jvm.Cond.code ({ cls := "SearchGridsModel", name := "covers", desc := "(I)Z" } : Jvm.MethodName) prog_6_method_42_code (2 : Nat) (Option.some Jvm.ClassFile.FieldType.boolean) ∈ sg_tbl := gd (i := 649) rfl rfl
theorem wd_611 : Jvm.Cond.constantLong "SearchGridsLaw" (21 : Nat) (4294967295 : Int64) ∈ sg_tbl := gd (i := 650) (by decide +kernel) rfl
theorem sl_0 : Cond.selects "SearchGrids" ⟨"SearchGrids", "isCell", "(I)Z"⟩ ⟨"SearchGrids", "isCell", "(I)Z"⟩ ∈ sg_tbl := gd (i := 0) (by decide +kernel) rfl
theorem sl_1 : Cond.selects "SearchGrids" ⟨"SearchGrids", "tellOf", "(I)I"⟩ ⟨"SearchGrids", "tellOf", "(I)I"⟩ ∈ sg_tbl := gd (i := 1) (by decide +kernel) rfl
theorem sl_2 : Cond.selects "SearchGrids" ⟨"SearchGrids", "placeOf", "(I)I"⟩ ⟨"SearchGrids", "placeOf", "(I)I"⟩ ∈ sg_tbl := gd (i := 2) (by decide +kernel) rfl
theorem sl_3 : Cond.selects "SearchGrids" ⟨"SearchGrids", "dropPlan", "()V"⟩ ⟨"SearchGrids", "dropPlan", "()V"⟩ ∈ sg_tbl := gd (i := 3) (by decide +kernel) rfl
theorem sl_4 : Cond.selects "SearchGrids" ⟨"SearchGrids", "allCounts", "()J"⟩ ⟨"SearchGrids", "allCounts", "()J"⟩ ∈ sg_tbl := gd (i := 4) (by decide +kernel) rfl
theorem sl_5 : Cond.selects "SearchGrids$Looker" ⟨"SearchGrids$Looker", "begin", "(I)V"⟩ ⟨"SearchGrids$Looker", "begin", "(I)V"⟩ ∈ sg_tbl := gd (i := 5) (by decide +kernel) rfl
theorem sl_6 : Cond.selects "SearchGrids" ⟨"SearchGrids", "isLooker", "(I)Z"⟩ ⟨"SearchGrids", "isLooker", "(I)Z"⟩ ∈ sg_tbl := gd (i := 6) (by decide +kernel) rfl
theorem sl_7 : Cond.selects "SearchGrids$Looker" ⟨"SearchGrids$Looker", "takeAway", "(II)V"⟩ ⟨"SearchGrids$Looker", "takeAway", "(II)V"⟩ ∈ sg_tbl := gd (i := 7) (by decide +kernel) rfl
theorem sl_8 : Cond.selects "SearchGrids$Cell" ⟨"SearchGrids$Cell", "reckonGains", "([I)V"⟩ ⟨"SearchGrids$Cell", "reckonGains", "([I)V"⟩ ∈ sg_tbl := gd (i := 8) (by decide +kernel) rfl
theorem sl_9 : Cond.selects "SearchGrids$Cell" ⟨"SearchGrids$Cell", "finds", "([I[I)J"⟩ ⟨"SearchGrids$Cell", "finds", "([I[I)J"⟩ ∈ sg_tbl := gd (i := 9) (by decide +kernel) rfl
theorem sl_10 : Cond.selects "SearchGrids$Cell" ⟨"SearchGrids$Cell", "weight", "()J"⟩ ⟨"SearchGrids$Cell", "weight", "()J"⟩ ∈ sg_tbl := gd (i := 10) (by decide +kernel) rfl
theorem sl_11 : Cond.selects "SearchGrids$Cell" ⟨"SearchGrids$Cell", "missed", "([I[I)J"⟩ ⟨"SearchGrids$Cell", "missed", "([I[I)J"⟩ ∈ sg_tbl := gd (i := 11) (by decide +kernel) rfl
theorem sl_12 : Cond.selects "SearchGrids$Cell" ⟨"SearchGrids$Cell", "missedBy", "(II)J"⟩ ⟨"SearchGrids$Cell", "missedBy", "(II)J"⟩ ∈ sg_tbl := gd (i := 12) (by decide +kernel) rfl
theorem sl_13 : Cond.selects "SearchGrids" ⟨"SearchGrids", "giveBestHour", "()Z"⟩ ⟨"SearchGrids", "giveBestHour", "()Z"⟩ ∈ sg_tbl := gd (i := 13) (by decide +kernel) rfl
theorem sl_14 : Cond.selects "SearchGrids" ⟨"SearchGrids", "plannedHours", "()I"⟩ ⟨"SearchGrids", "plannedHours", "()I"⟩ ∈ sg_tbl := gd (i := 14) (by decide +kernel) rfl
theorem sl_15 : Cond.selects "SearchGrids" ⟨"SearchGrids", "plannedFinds", "()J"⟩ ⟨"SearchGrids", "plannedFinds", "()J"⟩ ∈ sg_tbl := gd (i := 15) (by decide +kernel) rfl
theorem sl_16 : Cond.selects "SearchGrids" ⟨"SearchGrids", "isOutdone", "(IIIJJ)Z"⟩ ⟨"SearchGrids", "isOutdone", "(IIIJJ)Z"⟩ ∈ sg_tbl := gd (i := 16) (by decide +kernel) rfl
theorem sl_17 : Cond.selects "SearchGrids$LookLog" ⟨"SearchGrids$LookLog", "add", "(IIIJ)I"⟩ ⟨"SearchGrids$LookLog", "add", "(IIIJ)I"⟩ ∈ sg_tbl := gd (i := 17) (by decide +kernel) rfl
theorem sl_18 : Cond.selects "SearchGrids$Cell" ⟨"SearchGrids$Cell", "remains", "([I)J"⟩ ⟨"SearchGrids$Cell", "remains", "([I)J"⟩ ∈ sg_tbl := gd (i := 18) (by decide +kernel) rfl
theorem sl_19 : Cond.selects "SearchGrids" ⟨"SearchGrids", "allRemains", "()J"⟩ ⟨"SearchGrids", "allRemains", "()J"⟩ ∈ sg_tbl := gd (i := 19) (by decide +kernel) rfl
theorem sl_20 : Cond.selects "SearchGrids" ⟨"SearchGrids", "standingOf", "(LSearchGrids$Cell;)J"⟩ ⟨"SearchGrids", "standingOf", "(LSearchGrids$Cell;)J"⟩ ∈ sg_tbl := gd (i := 20) (by decide +kernel) rfl
theorem sl_21 : Cond.selects "SearchGrids" ⟨"SearchGrids", "countBefore", "(I)I"⟩ ⟨"SearchGrids", "countBefore", "(I)I"⟩ ∈ sg_tbl := gd (i := 21) (by decide +kernel) rfl
theorem sl_22 : Cond.selects "SearchGridsModel" ⟨"SearchGridsModel", "isCell", "(I)Z"⟩ ⟨"SearchGridsModel", "isCell", "(I)Z"⟩ ∈ sg_tbl := gd (i := 22) (by decide +kernel) rfl
theorem sl_23 : Cond.selects "SearchGridsModel" ⟨"SearchGridsModel", "place", "(I)I"⟩ ⟨"SearchGridsModel", "place", "(I)I"⟩ ∈ sg_tbl := gd (i := 23) (by decide +kernel) rfl
theorem sl_24 : Cond.selects "SearchGridsModel" ⟨"SearchGridsModel", "tell", "(I)I"⟩ ⟨"SearchGridsModel", "tell", "(I)I"⟩ ∈ sg_tbl := gd (i := 24) (by decide +kernel) rfl
theorem sl_25 : Cond.selects "SearchGridsModel" ⟨"SearchGridsModel", "move", "(II)V"⟩ ⟨"SearchGridsModel", "move", "(II)V"⟩ ∈ sg_tbl := gd (i := 25) (by decide +kernel) rfl
theorem sl_26 : Cond.selects "SearchGridsModel" ⟨"SearchGridsModel", "changed", "()V"⟩ ⟨"SearchGridsModel", "changed", "()V"⟩ ∈ sg_tbl := gd (i := 26) (by decide +kernel) rfl
theorem sl_27 : Cond.selects "SearchGridsModel" ⟨"SearchGridsModel", "isLooker", "(I)Z"⟩ ⟨"SearchGridsModel", "isLooker", "(I)Z"⟩ ∈ sg_tbl := gd (i := 27) (by decide +kernel) rfl
theorem sl_28 : Cond.selects "SearchGridsModel" ⟨"SearchGridsModel", "worth", "([I)J"⟩ ⟨"SearchGridsModel", "worth", "([I)J"⟩ ∈ sg_tbl := gd (i := 28) (by decide +kernel) rfl
theorem sl_29 : Cond.selects "SearchGridsModel" ⟨"SearchGridsModel", "weight", "(I)I"⟩ ⟨"SearchGridsModel", "weight", "(I)I"⟩ ∈ sg_tbl := gd (i := 29) (by decide +kernel) rfl
theorem sl_30 : Cond.selects "SearchGridsModel" ⟨"SearchGridsModel", "missed", "([II)J"⟩ ⟨"SearchGridsModel", "missed", "([II)J"⟩ ∈ sg_tbl := gd (i := 30) (by decide +kernel) rfl
theorem sl_31 : Cond.selects "SearchGridsModel" ⟨"SearchGridsModel", "given", "([II)I"⟩ ⟨"SearchGridsModel", "given", "([II)I"⟩ ∈ sg_tbl := gd (i := 31) (by decide +kernel) rfl
theorem sl_32 : Cond.selects "SearchGridsModel" ⟨"SearchGridsModel", "use", "(I)I"⟩ ⟨"SearchGridsModel", "use", "(I)I"⟩ ∈ sg_tbl := gd (i := 32) (by decide +kernel) rfl
theorem sl_33 : Cond.selects "SearchGridsModel" ⟨"SearchGridsModel", "size", "()I"⟩ ⟨"SearchGridsModel", "size", "()I"⟩ ∈ sg_tbl := gd (i := 33) (by decide +kernel) rfl
theorem sl_34 : Cond.selects "SearchGridsModel" ⟨"SearchGridsModel", "isBetter", "(IIJ)Z"⟩ ⟨"SearchGridsModel", "isBetter", "(IIJ)Z"⟩ ∈ sg_tbl := gd (i := 34) (by decide +kernel) rfl
theorem sl_35 : Cond.selects "SearchGridsModel" ⟨"SearchGridsModel", "slot", "(I)I"⟩ ⟨"SearchGridsModel", "slot", "(I)I"⟩ ∈ sg_tbl := gd (i := 35) (by decide +kernel) rfl
theorem sl_36 : Cond.selects "SearchGridsModel" ⟨"SearchGridsModel", "all", "()J"⟩ ⟨"SearchGridsModel", "all", "()J"⟩ ∈ sg_tbl := gd (i := 36) (by decide +kernel) rfl
theorem sl_37 : Cond.selects "SearchGridsModel" ⟨"SearchGridsModel", "left", "()J"⟩ ⟨"SearchGridsModel", "left", "()J"⟩ ∈ sg_tbl := gd (i := 37) (by decide +kernel) rfl
theorem sl_38 : Cond.selects "SearchGridsModel" ⟨"SearchGridsModel", "rank", "(I)J"⟩ ⟨"SearchGridsModel", "rank", "(I)J"⟩ ∈ sg_tbl := gd (i := 38) (by decide +kernel) rfl
def sg_host : String := "SearchGrids"
def sg_fn : List (String × Nat × String × String × String) := [("SearchGrids", 70, "SearchGrids$Cell", "countOf", "[I"), ("SearchGrids", 120, "SearchGrids$Cell", "planned", "[I"), ("SearchGrids", 134, "SearchGrids$Cell", "looked", "[I"), ("SearchGrids", 218, "SearchGrids$Cell", "trial", "[I"), ("SearchGrids", 210, "SearchGrids$Cell", "gains", "[J"), ("SearchGrids", 186, "SearchGrids$Cell", "number", "I"), ("SearchGrids", 153, "SearchGrids$Cell", "squares", "I"), ("SearchGrids", 201, "SearchGrids$Cell", "scale", "I"), ("SearchGrids", 180, "SearchGrids$Cell", "standing", "J"), ("SearchGrids", 207, "SearchGrids$Looker", "use", "I"), ("SearchGrids", 204, "SearchGrids$Looker", "given", "I"), ("SearchGrids", 221, "SearchGrids$Looker", "trial", "I"), ("SearchGrids", 192, "SearchGrids$LookLog", "lookers", "[I"), ("SearchGrids", 194, "SearchGrids$LookLog", "cells", "[I"), ("SearchGrids", 196, "SearchGrids$LookLog", "hours", "[I"), ("SearchGrids", 189, "SearchGrids$LookLog", "byTold", "[I"), ("SearchGrids", 80, "SearchGrids$LookLog", "size", "I")]
def sg_mn : List (String × Nat × MethodName) := [("SearchGrids", 24, ⟨"SearchGrids$Cell", "<init>", "()V"⟩), ("SearchGrids", 31, ⟨"SearchGrids$Looker", "<init>", "()V"⟩), ("SearchGrids", 37, ⟨"SearchGrids$LookLog", "<init>", "()V"⟩), ("SearchGrids", 91, ⟨"SearchGrids$Looker", "begin", "(I)V"⟩), ("SearchGrids", 103, ⟨"SearchGrids$Looker", "takeAway", "(II)V"⟩), ("SearchGrids", 112, ⟨"SearchGrids$Cell", "reckonGains", "([I)V"⟩), ("SearchGrids", 214, ⟨"SearchGrids$Cell", "finds", "([I[I)J"⟩), ("SearchGrids", 137, ⟨"SearchGrids$LookLog", "add", "(IIIJ)I"⟩), ("SearchGrids", 141, ⟨"SearchGrids$Cell", "remains", "([I)J"⟩), ("SearchGrids", 148, ⟨"SearchGrids$Cell", "weight", "()J"⟩)]
def sg_nest : List Cond := sg_fn.map (fun q => Cond.fieldLinkNest q.1 q.2.1 q.2.2.1 q.2.2.2.1 q.2.2.2.2 sg_host) ++ sg_mn.map (fun q => Cond.methodLinkNest q.1 q.2.1 q.2.2 sg_host)
theorem sg_nest_warm {s U : State} (hW : s.WarmedH U.vm) : ∀ w ∈ sg_nest, va_Nw w s → va_Nw w U := by
  intro w hw h
  rcases List.mem_append.mp hw with hw | hw
  · obtain ⟨q, -, rfl⟩ := List.mem_map.mp hw
    exact va_Nw.warmF hW h
  · obtain ⟨q, -, rfl⟩ := List.mem_map.mp hw
    exact va_Nw.warmM hW h
theorem sg_nest_tab : ∀ w ∈ sg_nest, w.onTables = true := by
  intro w hw
  rcases List.mem_append.mp hw with hw | hw
  · obtain ⟨q, -, rfl⟩ := List.mem_map.mp hw
    rfl
  · obtain ⟨q, -, rfl⟩ := List.mem_map.mp hw
    rfl
theorem nsF {i : Nat} {a : String} {n : Nat} {b c d : String} (h : sg_fn[i]? = some (a, n, b, c, d)) : Cond.fieldLinkNest a n b c d sg_host ∈ sg_nest := List.mem_append_left _ (List.mem_map.mpr ⟨(a, n, b, c, d), List.mem_of_getElem? h, rfl⟩)
theorem nsM {i : Nat} {a : String} {n : Nat} {y : MethodName} (h : sg_mn[i]? = some (a, n, y)) : Cond.methodLinkNest a n y sg_host ∈ sg_nest := List.mem_append_right _ (List.mem_map.mpr ⟨(a, n, y), List.mem_of_getElem? h, rfl⟩)
theorem sg_nest_in : ∀ w ∈ sg_nest, w ∈ lw_tbl := by
  intro w hw
  rcases List.mem_append.mp hw with hw | hw
  · obtain ⟨q, hq, rfl⟩ := List.mem_map.mp hw
    obtain ⟨i, hi⟩ := List.getElem?_of_mem hq
    match i, hi with
    | 0, hi => cases hi; exact List.mem_of_getElem? (i := 63) (by decide +kernel)
    | 1, hi => cases hi; exact List.mem_of_getElem? (i := 65) (by decide +kernel)
    | 2, hi => cases hi; exact List.mem_of_getElem? (i := 67) (by decide +kernel)
    | 3, hi => cases hi; exact List.mem_of_getElem? (i := 69) (by decide +kernel)
    | 4, hi => cases hi; exact List.mem_of_getElem? (i := 71) (by decide +kernel)
    | 5, hi => cases hi; exact List.mem_of_getElem? (i := 73) (by decide +kernel)
    | 6, hi => cases hi; exact List.mem_of_getElem? (i := 75) (by decide +kernel)
    | 7, hi => cases hi; exact List.mem_of_getElem? (i := 77) (by decide +kernel)
    | 8, hi => cases hi; exact List.mem_of_getElem? (i := 78) (by decide +kernel)
    | 9, hi => cases hi; exact List.mem_of_getElem? (i := 110) (by decide +kernel)
    | 10, hi => cases hi; exact List.mem_of_getElem? (i := 111) (by decide +kernel)
    | 11, hi => cases hi; exact List.mem_of_getElem? (i := 112) (by decide +kernel)
    | 12, hi => cases hi; exact List.mem_of_getElem? (i := 132) (by decide +kernel)
    | 13, hi => cases hi; exact List.mem_of_getElem? (i := 134) (by decide +kernel)
    | 14, hi => cases hi; exact List.mem_of_getElem? (i := 136) (by decide +kernel)
    | 15, hi => cases hi; exact List.mem_of_getElem? (i := 139) (by decide +kernel)
    | 16, hi => cases hi; exact List.mem_of_getElem? (i := 141) (by decide +kernel)
    | i + 17, hi => simp [sg_fn] at hi
  · obtain ⟨q, hq, rfl⟩ := List.mem_map.mp hw
    obtain ⟨i, hi⟩ := List.getElem?_of_mem hq
    match i, hi with
    | 0, hi => cases hi; exact List.mem_of_getElem? (i := 58) (by decide +kernel)
    | 1, hi => cases hi; exact List.mem_of_getElem? (i := 103) (by decide +kernel)
    | 2, hi => cases hi; exact List.mem_of_getElem? (i := 127) (by decide +kernel)
    | 3, hi => cases hi; exact List.mem_of_getElem? (i := 243) (by decide +kernel)
    | 4, hi => cases hi; exact List.mem_of_getElem? (i := 256) (by decide +kernel)
    | 5, hi => cases hi; exact List.mem_of_getElem? (i := 268) (by decide +kernel)
    | 6, hi => cases hi; exact List.mem_of_getElem? (i := 312) (by decide +kernel)
    | 7, hi => cases hi; exact List.mem_of_getElem? (i := 322) (by decide +kernel)
    | 8, hi => cases hi; exact List.mem_of_getElem? (i := 330) (by decide +kernel)
    | 9, hi => cases hi; exact List.mem_of_getElem? (i := 346) (by decide +kernel)
    | i + 10, hi => simp [sg_mn] at hi
def sg_F0 : u_T := fun k => match k with
  | 0 => ("SearchGrids$Cell", "countOf", "[I", true)
  | 1 => ("SearchGrids$Cell", "planned", "[I", true)
  | 2 => ("SearchGrids$Cell", "looked", "[I", true)
  | 3 => ("SearchGrids$Cell", "trial", "[I", true)
  | 4 => ("SearchGrids$Cell", "gains", "[J", true)
  | 5 => ("SearchGrids$Cell", "number", "I", false)
  | 6 => ("SearchGrids$Cell", "squares", "I", false)
  | 7 => ("SearchGrids$Cell", "scale", "I", false)
  | _ => ("SearchGrids$Cell", "standing", "J", false)
def sg_t0 : Nat → FieldType := fun k => match k with
  | 0 => .array .int
  | 1 => .array .int
  | 2 => .array .int
  | 3 => .array .int
  | 4 => .array .long
  | 5 => .int
  | 6 => .int
  | 7 => .int
  | _ => .long
theorem sg_nm0 : ∀ a, a < 9 → ∀ b, b < 9 → a ≠ b → (sg_F0 a).2.1 ≠ (sg_F0 b).2.1 := by decide +kernel
theorem sg_ty0 : ∀ k, k < 9 → parseFieldDescriptor (sg_F0 k).2.2.1 = some (sg_t0 k) := by decide +kernel
theorem sg_in0 : ∀ w ∈ u_ws "SearchGrids$Cell" sg_F0 9, w ∈ sg_tbl := by
  intro w hw
  obtain ⟨k, hk, rfl⟩ := List.mem_map.mp hw
  have hk := List.mem_range.mp hk
  match k, hk with
  | 0, _ => exact wd_40
  | 1, _ => exact wd_42
  | 2, _ => exact wd_44
  | 3, _ => exact wd_46
  | 4, _ => exact wd_48
  | 5, _ => exact wd_50
  | 6, _ => exact wd_52
  | 7, _ => exact wd_54
  | 8, _ => exact wd_56
def sg_F1 : u_T := fun k => match k with
  | 0 => ("SearchGrids$LookLog", "lookers", "[I", true)
  | 1 => ("SearchGrids$LookLog", "cells", "[I", true)
  | 2 => ("SearchGrids$LookLog", "hours", "[I", true)
  | 3 => ("SearchGrids$LookLog", "tolds", "[J", true)
  | 4 => ("SearchGrids$LookLog", "byTold", "[I", true)
  | _ => ("SearchGrids$LookLog", "size", "I", false)
def sg_t1 : Nat → FieldType := fun k => match k with
  | 0 => .array .int
  | 1 => .array .int
  | 2 => .array .int
  | 3 => .array .long
  | 4 => .array .int
  | _ => .int
theorem sg_nm1 : ∀ a, a < 6 → ∀ b, b < 6 → a ≠ b → (sg_F1 a).2.1 ≠ (sg_F1 b).2.1 := by decide +kernel
theorem sg_ty1 : ∀ k, k < 6 → parseFieldDescriptor (sg_F1 k).2.2.1 = some (sg_t1 k) := by decide +kernel
theorem sg_in1 : ∀ w ∈ u_ws "SearchGrids$LookLog" sg_F1 6, w ∈ sg_tbl := by
  intro w hw
  obtain ⟨k, hk, rfl⟩ := List.mem_map.mp hw
  have hk := List.mem_range.mp hk
  match k, hk with
  | 0, _ => exact wd_103
  | 1, _ => exact wd_105
  | 2, _ => exact wd_107
  | 3, _ => exact wd_109
  | 4, _ => exact wd_111
  | 5, _ => exact wd_113
def sg_F2 : u_T := fun k => match k with
  | 0 => ("SearchGrids$Looker", "useless", "[Z", true)
  | 1 => ("SearchGrids$Looker", "hours", "I", false)
  | 2 => ("SearchGrids$Looker", "use", "I", false)
  | 3 => ("SearchGrids$Looker", "given", "I", false)
  | _ => ("SearchGrids$Looker", "trial", "I", false)
def sg_t2 : Nat → FieldType := fun k => match k with
  | 0 => .array .boolean
  | 1 => .int
  | 2 => .int
  | 3 => .int
  | _ => .int
theorem sg_nm2 : ∀ a, a < 5 → ∀ b, b < 5 → a ≠ b → (sg_F2 a).2.1 ≠ (sg_F2 b).2.1 := by decide +kernel
theorem sg_ty2 : ∀ k, k < 5 → parseFieldDescriptor (sg_F2 k).2.2.1 = some (sg_t2 k) := by decide +kernel
theorem sg_in2 : ∀ w ∈ u_ws "SearchGrids$Looker" sg_F2 5, w ∈ sg_tbl := by
  intro w hw
  obtain ⟨k, hk, rfl⟩ := List.mem_map.mp hw
  have hk := List.mem_range.mp hk
  match k, hk with
  | 0, _ => exact wd_74
  | 1, _ => exact wd_76
  | 2, _ => exact wd_78
  | 3, _ => exact wd_80
  | 4, _ => exact wd_82
def sg_F3 : u_T := fun k => match k with
  | 0 => ("SearchGrids", "cells", "I", true)
  | 1 => ("SearchGrids", "toldCells", "[LSearchGrids$Cell;", true)
  | 2 => ("SearchGrids", "toldCount", "I", false)
  | 3 => ("SearchGrids", "lookers", "[LSearchGrids$Looker;", true)
  | 4 => ("SearchGrids", "lookerCount", "I", false)
  | 5 => ("SearchGrids", "rates", "[I", true)
  | 6 => ("SearchGrids", "thingCount", "I", false)
  | 7 => ("SearchGrids", "looks", "LSearchGrids$LookLog;", true)
  | 8 => ("SearchGrids", "seenCell", "I", false)
  | 9 => ("SearchGrids", "stopAbove", "J", false)
  | 10 => ("SearchGrids", "stopBelow", "J", false)
  | _ => ("SearchGrids", "gone", "[Z", true)
def sg_t3 : Nat → FieldType := fun k => match k with
  | 0 => .int
  | 1 => .array (.object "SearchGrids$Cell")
  | 2 => .int
  | 3 => .array (.object "SearchGrids$Looker")
  | 4 => .int
  | 5 => .array .int
  | 6 => .int
  | 7 => .object "SearchGrids$LookLog"
  | 8 => .int
  | 9 => .long
  | 10 => .long
  | _ => .array .boolean
theorem sg_nm3 : ∀ a, a < 12 → ∀ b, b < 12 → a ≠ b → (sg_F3 a).2.1 ≠ (sg_F3 b).2.1 := by decide +kernel
theorem sg_ty3 : ∀ k, k < 12 → parseFieldDescriptor (sg_F3 k).2.2.1 = some (sg_t3 k) := by decide +kernel
theorem sg_in3 : ∀ w ∈ u_ws "SearchGrids" sg_F3 12, w ∈ sg_tbl := by
  intro w hw
  obtain ⟨k, hk, rfl⟩ := List.mem_map.mp hw
  have hk := List.mem_range.mp hk
  match k, hk with
  | 0, _ => exact wd_128
  | 1, _ => exact wd_130
  | 2, _ => exact wd_132
  | 3, _ => exact wd_134
  | 4, _ => exact wd_136
  | 5, _ => exact wd_138
  | 6, _ => exact wd_140
  | 7, _ => exact wd_142
  | 8, _ => exact wd_144
  | 9, _ => exact wd_146
  | 10, _ => exact wd_148
  | 11, _ => exact wd_150
def sg_F4 : u_T := fun k => match k with
  | 0 => ("SearchGridsModel", "cells", "I", true)
  | 1 => ("SearchGridsModel", "told", "I", false)
  | 2 => ("SearchGridsModel", "cell", "[I", true)
  | 3 => ("SearchGridsModel", "areas", "[I", true)
  | 4 => ("SearchGridsModel", "count", "[I", true)
  | 5 => ("SearchGridsModel", "things", "I", false)
  | 6 => ("SearchGridsModel", "lookers", "I", false)
  | 7 => ("SearchGridsModel", "rate", "[I", true)
  | 8 => ("SearchGridsModel", "hours", "[I", true)
  | 9 => ("SearchGridsModel", "barred", "[Z", true)
  | 10 => ("SearchGridsModel", "plan", "[I", true)
  | 11 => ("SearchGridsModel", "trial", "[I", true)
  | 12 => ("SearchGridsModel", "looked", "[I", true)
  | 13 => ("SearchGridsModel", "looks", "I", false)
  | 14 => ("SearchGridsModel", "lookLooker", "[I", true)
  | 15 => ("SearchGridsModel", "lookCell", "[I", true)
  | 16 => ("SearchGridsModel", "lookHours", "[I", true)
  | 17 => ("SearchGridsModel", "lookTold", "[J", true)
  | 18 => ("SearchGridsModel", "seenAt", "I", false)
  | 19 => ("SearchGridsModel", "above", "J", false)
  | _ => ("SearchGridsModel", "below", "J", false)
def sg_t4 : Nat → FieldType := fun k => match k with
  | 0 => .int
  | 1 => .int
  | 2 => .array .int
  | 3 => .array .int
  | 4 => .array .int
  | 5 => .int
  | 6 => .int
  | 7 => .array .int
  | 8 => .array .int
  | 9 => .array .boolean
  | 10 => .array .int
  | 11 => .array .int
  | 12 => .array .int
  | 13 => .int
  | 14 => .array .int
  | 15 => .array .int
  | 16 => .array .int
  | 17 => .array .long
  | 18 => .int
  | 19 => .long
  | _ => .long
theorem sg_nm4 : ∀ a, a < 21 → ∀ b, b < 21 → a ≠ b → (sg_F4 a).2.1 ≠ (sg_F4 b).2.1 := by decide +kernel
theorem sg_ty4 : ∀ k, k < 21 → parseFieldDescriptor (sg_F4 k).2.2.1 = some (sg_t4 k) := by decide +kernel
theorem sg_in4 : ∀ w ∈ u_ws "SearchGridsModel" sg_F4 21, w ∈ sg_tbl := by
  intro w hw
  obtain ⟨k, hk, rfl⟩ := List.mem_map.mp hw
  have hk := List.mem_range.mp hk
  match k, hk with
  | 0, _ => exact wd_399
  | 1, _ => exact wd_401
  | 2, _ => exact wd_403
  | 3, _ => exact wd_405
  | 4, _ => exact wd_407
  | 5, _ => exact wd_409
  | 6, _ => exact wd_411
  | 7, _ => exact wd_413
  | 8, _ => exact wd_415
  | 9, _ => exact wd_417
  | 10, _ => exact wd_419
  | 11, _ => exact wd_421
  | 12, _ => exact wd_423
  | 13, _ => exact wd_425
  | 14, _ => exact wd_427
  | 15, _ => exact wd_429
  | 16, _ => exact wd_431
  | 17, _ => exact wd_433
  | 18, _ => exact wd_435
  | 19, _ => exact wd_437
  | 20, _ => exact wd_439
  | k + 21, h => exact absurd h (by omega)
def sg_cl : List vw_C := [("SearchGrids$Cell", sg_F0, 9), ("SearchGrids$LookLog", sg_F1, 6), ("SearchGrids$Looker", sg_F2, 5), ("SearchGrids", sg_F3, 12), ("SearchGridsModel", sg_F4, 21)]
def sg_ft (c k : Nat) : FieldType := match c with
  | 0 => sg_t0 k
  | 1 => sg_t1 k
  | 2 => sg_t2 k
  | 3 => sg_t3 k
  | _ => sg_t4 k
theorem sg_cl_ok : ∀ (c : Nat) (r : vw_C), sg_cl[c]? = some r → (∀ w ∈ u_ws r.1 r.2.1 r.2.2, w ∈ sg_tbl) ∧ (∀ k, k < r.2.2 → parseFieldDescriptor (r.2.1 k).2.2.1 = some (sg_ft c k)) ∧ (∀ a, a < r.2.2 → ∀ b, b < r.2.2 → a ≠ b → (r.2.1 a).2.1 ≠ (r.2.1 b).2.1) := by
  intro c r h
  match c, h with
  | 0, h => cases h; exact ⟨sg_in0, sg_ty0, sg_nm0⟩
  | 1, h => cases h; exact ⟨sg_in1, sg_ty1, sg_nm1⟩
  | 2, h => cases h; exact ⟨sg_in2, sg_ty2, sg_nm2⟩
  | 3, h => cases h; exact ⟨sg_in3, sg_ty3, sg_nm3⟩
  | 4, h => cases h; exact ⟨sg_in4, sg_ty4, sg_nm4⟩
  | c + 5, h => simp [sg_cl] at h
def sg_na : Nat := 5
def sg_at (t : Nat) : FieldType := match t with
  | 0 => .int
  | 1 => .long
  | 2 => .boolean
  | 3 => .object "SearchGrids$Cell"
  | _ => .object "SearchGrids$Looker"
def sg_refs : List String := ["SearchGrids$Cell", "SearchGrids$Looker"]
end
section
/-! THE ABSTRACT HEAP. hp_n: its size; hp_k: a cell's kind (.inl c an object of class number c, .inr t an array of the type number t); hp_l: an array's length; hp_i, hp_j, hp_r: ints, longs, references by cell and place. An address is itself. -/
abbrev Gx : Type := Launch × (Nat → ClassId) × (Nat → Nat → Nat) × (Nat → ClassId) × Heap × Nat × Nat × (Nat → Int32)
abbrev Hp : Type := Nat × (Nat → Nat ⊕ Nat) × (Nat → Nat) × (Nat → Nat → Int32) × (Nat → Nat → Int64) × (Nat → Nat → Option Nat)
def gx_l (g : Gx) : Launch := g.1
def gx_D (g : Gx) : va_G := (g.2.1, g.2.2.1)
def gx_A (g : Gx) : Nat → ClassId := g.2.2.2.1
def gx_H (g : Gx) : Heap := g.2.2.2.2.1
def gx_B (g : Gx) : Nat := g.2.2.2.2.1.size
/-- the script: where it lies, its length, its ints -/
def gx_b (g : Gx) : Nat := g.2.2.2.2.2.1
def gx_L (g : Gx) : Nat := g.2.2.2.2.2.2.1
def gx_x (g : Gx) : Nat → Int32 := g.2.2.2.2.2.2.2
def hp_n (h : Hp) : Nat := h.1
def hp_k (h : Hp) : Nat → Nat ⊕ Nat := h.2.1
def hp_l (h : Hp) : Nat → Nat := h.2.2.1
def hp_i (h : Hp) : Nat → Nat → Int32 := h.2.2.2.1
def hp_j (h : Hp) : Nat → Nat → Int64 := h.2.2.2.2.1
def hp_r (h : Hp) : Nat → Nat → Option Nat := h.2.2.2.2.2
def up2 {α : Type} (f : Nat → Nat → α) (a k : Nat) (x : α) : Nat → Nat → α := fun b j => if b = a ∧ j = k then x else f b j
theorem up2_s {α : Type} (f : Nat → Nat → α) (a k : Nat) (x : α) : up2 f a k x a k = x := by simp [up2]
theorem up2_a {α : Type} {f : Nat → Nat → α} {a k b j : Nat} {x : α} (h : b ≠ a) : up2 f a k x b j = f b j := by simp [up2, h]
theorem up2_k {α : Type} {f : Nat → Nat → α} {a k b j : Nat} {x : α} (h : j ≠ k) : up2 f a k x b j = f b j := by simp [up2, h]
def hp_ui (h : Hp) (a k : Nat) (x : Int32) : Hp := (h.1, h.2.1, h.2.2.1, up2 h.2.2.2.1 a k x, h.2.2.2.2.1, h.2.2.2.2.2)
def hp_uj (h : Hp) (a k : Nat) (x : Int64) : Hp := (h.1, h.2.1, h.2.2.1, h.2.2.2.1, up2 h.2.2.2.2.1 a k x, h.2.2.2.2.2)
def hp_ur (h : Hp) (a k : Nat) (x : Option Nat) : Hp := (h.1, h.2.1, h.2.2.1, h.2.2.2.1, h.2.2.2.2.1, up2 h.2.2.2.2.2 a k x)
def hp_new (h : Hp) (kd : Nat ⊕ Nat) (len : Nat) : Hp := (h.1 + 1, va_up h.2.1 h.1 kd, va_up h.2.2.1 h.1 len, fun b j => if b = h.1 then 0 else h.2.2.2.1 b j, fun b j => if b = h.1 then 0 else h.2.2.2.2.1 b j, fun b j => if b = h.1 then none else h.2.2.2.2.2 b j)
/-- what a place of that type holds -/
def hp_fv (h : Hp) (ty : FieldType) (a k : Nat) : Value := match ty with
  | .long => .long (hp_j h a k)
  | .object _ => va_rf (hp_r h a k)
  | .array _ => va_rf (hp_r h a k)
  | _ => .int (hp_i h a k)
def ty_I (ty : FieldType) : Bool := match ty with
  | .int => true
  | .boolean => true
  | .byte => true
  | .short => true
  | .char => true
  | _ => false
def ty_R (ty : FieldType) : Bool := match ty with
  | .object _ => true
  | .array _ => true
  | _ => false
def ty_D (ty : FieldType) : Bool := match ty with
  | .float => true
  | .double => true
  | _ => false
theorem hp_fv_I {h : Hp} {ty : FieldType} {a k : Nat} (e : ty_I ty = true) : hp_fv h ty a k = .int (hp_i h a k) := by cases ty <;> first | rfl | cases e
theorem hp_fv_R {h : Hp} {ty : FieldType} {a k : Nat} (e : ty_R ty = true) : hp_fv h ty a k = va_rf (hp_r h a k) := by cases ty <;> first | rfl | cases e
theorem hp_fv_new {h : Hp} {kd : Nat ⊕ Nat} {len : Nat} {ty : FieldType} {k : Nat} (e : ty_D ty = false) : hp_fv (hp_new h kd len) ty (hp_n h) k = defaultValue ty := by
  cases ty <;> first | (simp [hp_fv, hp_new, hp_n, hp_i, hp_j, hp_r, va_rf, defaultValue]; done) | cases e
theorem hp_fv_new_ne {h : Hp} {kd : Nat ⊕ Nat} {len : Nat} {ty : FieldType} {a k : Nat} (e : a ≠ hp_n h) : hp_fv (hp_new h kd len) ty a k = hp_fv h ty a k := by
  have e' : a ≠ h.1 := e
  cases ty <;> simp [hp_fv, hp_new, hp_i, hp_j, hp_r, e']
theorem hp_fv_ui {h : Hp} {a k b j : Nat} {x : Int32} {ty : FieldType} (e : b ≠ a ∨ j ≠ k) : hp_fv (hp_ui h a k x) ty b j = hp_fv h ty b j := by
  have e' : ¬ (b = a ∧ j = k) := fun q => e.elim (fun z => z q.1) (fun z => z q.2)
  cases ty <;> simp [hp_fv, hp_ui, up2, hp_i, hp_j, hp_r, e']
theorem hp_fv_uj {h : Hp} {a k b j : Nat} {x : Int64} {ty : FieldType} (e : b ≠ a ∨ j ≠ k) : hp_fv (hp_uj h a k x) ty b j = hp_fv h ty b j := by
  have e' : ¬ (b = a ∧ j = k) := fun q => e.elim (fun z => z q.1) (fun z => z q.2)
  cases ty <;> simp [hp_fv, hp_uj, up2, hp_i, hp_j, hp_r, e']
theorem hp_fv_ur {h : Hp} {a k b j : Nat} {x : Option Nat} {ty : FieldType} (e : b ≠ a ∨ j ≠ k) : hp_fv (hp_ur h a k x) ty b j = hp_fv h ty b j := by
  have e' : ¬ (b = a ∧ j = k) := fun q => e.elim (fun z => z q.1) (fun z => z q.2)
  cases ty <;> simp [hp_fv, hp_ur, up2, hp_i, hp_j, hp_r, e']
/-- the cell a of the machine's heap is what the abstract one says -/
def hp_at (g : Gx) (h : Hp) (a : Nat) (H : Heap) : Prop := match hp_k h a with
  | .inl c => ∃ r : vw_C, sg_cl[c]? = some r ∧ t_OB a (g.2.1 c) r.2.2 (g.2.2.1 c) H (fun k => hp_fv h (sg_ft c k) a k)
  | .inr t => H[a]? = some (arrV (g.2.2.2.1 t) (hp_l h a) (fun j => hp_fv h (sg_at t) a j))
def Wd (g : Gx) (h : Hp) (H : Heap) : Prop := H.size = hp_n h ∧ gx_B g ≤ hp_n h ∧ (∀ a, a < gx_B g → H[a]? = (gx_H g)[a]?) ∧ ∀ a, gx_B g ≤ a → a < hp_n h → hp_at g h a H
theorem hp_at_kept {g : Gx} {h : Hp} {a : Nat} {H H1 : Heap} (x : hp_at g h a H) (e : H1[a]? = H[a]?) : hp_at g h a H1 := by
  unfold hp_at at x ⊢
  split at x
  · obtain ⟨r, h1, h2⟩ := x
    exact ⟨r, h1, h2.kept e⟩
  · rw [e]; exact x
theorem hp_at_cong {g : Gx} {h h1 : Hp} {a : Nat} {H : Heap} (e1 : hp_k h1 a = hp_k h a) (e2 : hp_l h1 a = hp_l h a) (e3 : ∀ ty j, hp_fv h1 ty a j = hp_fv h ty a j) (x : hp_at g h a H) : hp_at g h1 a H := by
  unfold hp_at at x ⊢
  rw [e1, e2]
  simp only [e3]
  exact x
theorem Wd_set {g : Gx} {h h1 : Hp} {H H1 : Heap} {a : Nat} (x : Wd g h H) (ha : gx_B g ≤ a) (hz : H1.size = H.size) (hn : hp_n h1 = hp_n h) (hq : ∀ q, q ≠ a → H1[q]? = H[q]?) (hat : hp_at g h1 a H1)
    (hk : hp_k h1 = hp_k h) (hl : hp_l h1 = hp_l h) (hf : ∀ q, q ≠ a → ∀ ty j, hp_fv h1 ty q j = hp_fv h ty q j) : Wd g h1 H1 := by
  obtain ⟨x1, x2, x3, x4⟩ := x
  refine ⟨by rw [hz, x1, hn], by rw [hn]; exact x2, fun q hb => ?_, fun q hb hlt => ?_⟩
  · rw [hq q (by omega)]; exact x3 q hb
  · by_cases e : q = a
    · subst e; exact hat
    · rw [hn] at hlt
      exact hp_at_kept (hp_at_cong (by rw [hk]) (by rw [hl]) (hf q e) (x4 q hb hlt)) (hq q e)
theorem Wd_new {g : Gx} {h : Hp} {H H1 : Heap} {kd : Nat ⊕ Nat} {len : Nat} (x : Wd g h H) (hz : H1.size = H.size + 1) (hq : ∀ q, q < H.size → H1[q]? = H[q]?) (hat : hp_at g (hp_new h kd len) (hp_n h) H1) : Wd g (hp_new h kd len) H1 := by
  obtain ⟨x1, x2, x3, x4⟩ := x
  have e0 : hp_n (hp_new h kd len) = hp_n h + 1 := rfl
  refine ⟨by rw [hz, x1, e0], by rw [e0]; omega, fun q hb => ?_, fun q hb hlt => ?_⟩
  · rw [hq q (by rw [x1]; omega)]; exact x3 q hb
  · by_cases e : q = hp_n h
    · subst e; exact hat
    · rw [e0] at hlt
      refine hp_at_kept (hp_at_cong ?_ ?_ (fun ty j => hp_fv_new_ne e) (x4 q hb (by omega))) (hq q (by rw [x1]; omega))
      · show va_up h.2.1 h.1 kd q = h.2.1 q
        exact va_up_ne _ _ e
      · show va_up h.2.2.1 h.1 len q = h.2.2.1 q
        exact va_up_ne _ _ e
/-- the tables -/
def tb_tys (g : Gx) : List (ClassId × FieldType) := (List.range sg_na).map (fun t => (g.2.2.2.1 t, sg_at t))
theorem tb_get {g : Gx} {t : Nat} (h : t < sg_na) : (tb_tys g)[t]? = some (g.2.2.2.1 t, sg_at t) := by
  simp [tb_tys, h]
def Tb (g : Gx) (U : State) : Prop := va_K (gx_D g) sg_cl (tb_tys g) U ∧ (∀ w ∈ sg_nest, va_Nw w U) ∧ (∀ C ∈ sg_refs, va_AO C U) ∧ va_X (gx_b g) (gx_L g) (gx_x g) U (gx_H g)
theorem Tb_moved {g : Gx} {s U : State} (h : Tb g s) (hW : s.WarmedH U.vm) : Tb g U :=
  ⟨va_K.moved hW.alike h.1, fun w hw => sg_nest_warm hW w hw (h.2.1 w hw), fun C hC => (h.2.2.1 C hC).moved hW.alike, va_X.moved hW.alike h.2.2.2⟩
theorem Tb_same {g : Gx} {s U : State} (h : Tb g s) (e : s.vm = U.vm) : Tb g U :=
  ⟨va_K.moved (by rw [e]; exact Vm.Alike.refl _) h.1, fun w hw => (h.2.1 w hw).same (sg_nest_tab w hw) e, fun C hC => (h.2.2.1 C hC).moved (by rw [e]; exact Vm.Alike.refl _), va_X.moved (by rw [e]; exact Vm.Alike.refl _) h.2.2.2⟩
/-! METHODS: name, bytes, locals, answer, and a table of the instructions: pc, instruction, its length, the next pc, two numbers (a jump's goal; a field's class and place; a class; ..) -/
abbrev En : Type := Nat × Instr × Nat × Nat × Nat × Nat
abbrev Md : Type := MethodName × ByteArray × Nat × Option FieldType × List En
def md_y (M : Md) : MethodName := M.1
def md_b (M : Md) : ByteArray := M.2.1
def md_n (M : Md) : Nat := M.2.2.1
def md_r (M : Md) : Option FieldType := M.2.2.2.1
def md_t (M : Md) : List En := M.2.2.2.2
def en_f : List En → Nat → Option (Instr × Nat × Nat × Nat × Nat)
  | [], _ => none
  | q :: r, pc => cond (Nat.beq q.1 pc) (some q.2) (en_f r pc)
def md_f (M : Md) (pc : Nat) : Option (Instr × Nat × Nat × Nat × Nat) := en_f M.2.2.2.2 pc
theorem en_f_mem : ∀ {l : List En} {pc : Nat} {q : Instr × Nat × Nat × Nat × Nat}, en_f l pc = some q → (pc, q) ∈ l
  | [], _, _, h => by cases h
  | a :: r, pc, q, h => by
    unfold en_f at h
    cases e : Nat.beq a.1 pc with
    | true =>
      rw [e] at h
      have h1 : a.2 = q := Option.some.inj h
      have h2 : a.1 = pc := Nat.eq_of_beq_eq_true e
      rw [← h1, ← h2]
      exact List.mem_cons_self
    | false =>
      rw [e] at h
      exact List.mem_cons_of_mem _ (en_f_mem h)
def en_off : Instr → Option Int
  | .goto o => some o
  | .ifCond _ o => some o
  | .if_icmp _ o => some o
  | .ifnull o => some o
  | .ifnonnull o => some o
  | .if_acmp _ o => some o
  | _ => none
def en_jmp (q : En) : Bool := match en_off q.2.1 with
  | some o => decide ((q.1 : Int) + o = (q.2.2.2.2.1 : Int))
  | none => true
def en_dec (b : ByteArray) (q : En) : Bool := decide (decode b q.1 = .ok (q.2.1, q.2.2.1)) && (decide (q.2.2.2.1 = q.1 + q.2.2.1) && en_jmp q)
/-- a field's link, the class's own or a nest mate's -/
def fd_ok (own : String) (idx ci k : Nat) : Prop := ∃ r : vw_C, sg_cl[ci]? = some r ∧ k < r.2.2 ∧ (Cond.fieldLink own idx (r.2.1 k).1 (r.2.1 k).2.1 (r.2.1 k).2.2.1 ∈ sg_tbl ∨ Cond.fieldLinkNest own idx (r.2.1 k).1 (r.2.1 k).2.1 (r.2.1 k).2.2.1 sg_host ∈ sg_nest)
def en_lk (own : String) (q : En) : Prop := match q.2.1 with
  | .getfield i => fd_ok own i q.2.2.2.2.1 q.2.2.2.2.2
  | .putfield i => fd_ok own i q.2.2.2.2.1 q.2.2.2.2.2
  | _ => True
def md_ok (M : Md) : Prop := ((md_t M).all (en_dec (md_b M))) = true ∧ ∀ q ∈ md_t M, en_lk (md_y M).cls q
theorem md_get {M : Md} (hM : md_ok M) {pc idx len n x y : Nat} (hf : md_f M pc = some (.getfield idx, len, n, x, y)) : fd_ok (md_y M).cls idx x y := hM.2 _ (en_f_mem hf)
theorem md_put {M : Md} (hM : md_ok M) {pc idx len n x y : Nat} (hf : md_f M pc = some (.putfield idx, len, n, x, y)) : fd_ok (md_y M).cls idx x y := hM.2 _ (en_f_mem hf)
theorem md_dec {M : Md} (hM : md_ok M) {pc : Nat} {i : Instr} {len n x y : Nat} (hf : md_f M pc = some (i, len, n, x, y)) : decode (md_b M) pc = .ok (i, len) ∧ n = pc + len ∧ ∀ o, en_off i = some o → (pc : Int) + o = (x : Int) := by
  have h := List.all_eq_true.mp hM.1 _ (en_f_mem hf)
  unfold en_dec at h
  simp only [Bool.and_eq_true, decide_eq_true_eq] at h
  refine ⟨h.1, h.2.1, fun o ho => ?_⟩
  have h3 := h.2.2
  unfold en_jmp at h3
  simp only [ho, decide_eq_true_eq] at h3
  exact h3
def md_ws (M : Md) : List Cond := .code M.1 M.2.1 M.2.2.1 M.2.2.2.1 :: sg_tbl
/-! THE LOCALS -/
def lc_p : Nat → List (Option Value) → List (Nat × Value)
  | _, [] => []
  | i, none :: r => lc_p (i + 1) r
  | i, some v :: r => (i, v) :: lc_p (i + 1) r
theorem lc_mem : ∀ (L : List (Option Value)) (i : Nat) (q : Nat × Value), q ∈ lc_p i L → ∃ k, L[k]? = some (some q.2) ∧ q.1 = i + k
  | [], _, q, h => by simp [lc_p] at h
  | none :: r, i, q, h => by
    obtain ⟨k, h1, h2⟩ := lc_mem r (i + 1) q h
    exact ⟨k + 1, by simpa using h1, by omega⟩
  | some v :: r, i, q, h => by
    rcases List.mem_cons.mp h with h | h
    · subst h
      exact ⟨0, rfl, rfl⟩
    · obtain ⟨k, h1, h2⟩ := lc_mem r (i + 1) q h
      exact ⟨k + 1, by simpa using h1, by omega⟩
theorem lc_in : ∀ (L : List (Option Value)) (i k : Nat) (v : Value), L[k]? = some (some v) → (i + k, v) ∈ lc_p i L
  | [], _, k, v, h => by simp at h
  | a :: r, i, 0, v, h => by
    have e : a = some v := by simpa using h
    subst e
    exact List.mem_cons_self
  | a :: r, i, k + 1, v, h => by
    have h1 : r[k]? = some (some v) := by simpa using h
    have h2 := lc_in r (i + 1) k v h1
    have e : i + 1 + k = i + (k + 1) := by omega
    rw [e] at h2
    cases a with
    | none => exact h2
    | some w => exact List.mem_cons_of_mem _ h2
def lvk (ls : Array Slot) (nL : Nat) (L : List (Option Value)) : Prop := lv_has ls nL (lc_p 0 L) ∧ L.length = nL
theorem lvk_at {ls : Array Slot} {nL : Nat} {L : List (Option Value)} (h : lvk ls nL L) {i : Nat} {v : Value} (e : L[i]? = some (some v)) : ls[i]? = some (.val v) := by
  have h1 := lc_in L 0 i v e
  rw [Nat.zero_add] at h1
  exact h.1.2.2 (i, v) h1
/-- the value is of one word, or nothing is known -/
def lc_1 (a : Option Value) : Bool := match a with
  | some (.long _) => false
  | some (.double _) => false
  | _ => true
theorem lc_1_cat {v : Value} (h : lc_1 (some v) = true) : v.category = 1 := by cases v <;> first | rfl | cases h
def lc_s (L : List (Option Value)) (i : Nat) : Bool := match i with
  | 0 => true
  | i + 1 => lc_1 (L.getD i none)
theorem lc_st1 {ls : Array Slot} {nL : Nat} {L : List (Option Value)} {i : Nat} {v : Value} {ls1 : Array Slot} (h : lvk ls nL L) (hs : lc_s L i = true)
    (h1 : lv_has ls1 nL ((i, v) :: (lc_p 0 L).filter (fun q => !(q.1 == i) && !(q.1 + 1 == i && q.2.category == 2)))) : lvk ls1 nL (L.set i (some v)) := by
  refine ⟨⟨h1.1, h1.2.1, fun q hq => ?_⟩, by rw [List.length_set]; exact h.2⟩
  obtain ⟨k, hk, e⟩ := lc_mem _ _ _ hq
  rw [Nat.zero_add] at e
  subst e
  apply h1.2.2
  by_cases e : q.1 = i
  · rw [List.getElem?_set] at hk
    subst e
    have h2 : q.2 = v := by
      split at hk
      · split at hk
        · exact (Option.some.inj (Option.some.inj hk)).symm
        · cases hk
      · contradiction
    rw [← h2]
    exact List.mem_cons_self
  · rw [List.getElem?_set_ne (Ne.symm e)] at hk
    refine List.mem_cons_of_mem _ (List.mem_filter.mpr ⟨?_, ?_⟩)
    · have h3 := lc_in L 0 q.1 q.2 hk
      rw [Nat.zero_add] at h3
      exact h3
    · simp only [Bool.and_eq_true, Bool.not_eq_true', beq_eq_false_iff_ne, ne_eq, Bool.and_eq_false_iff]
      refine ⟨e, ?_⟩
      by_cases e2 : q.1 + 1 = i
      · right
        subst e2
        have h4 : L.getD q.1 none = some q.2 := by simp [List.getD, hk]
        have h5 : lc_1 (some q.2) = true := by
          have : lc_s L (q.1 + 1) = lc_1 (L.getD q.1 none) := rfl
          rw [← h4, ← this]; exact hs
        have h6 := lc_1_cat h5
        omega
      · exact Or.inl e2
theorem lc_st2 {ls : Array Slot} {nL : Nat} {L : List (Option Value)} {i : Nat} {v : Value} {ls1 : Array Slot} (h : lvk ls nL L) (hs : lc_s L i = true)
    (h1 : lv_has ls1 nL ((i, v) :: (lc_p 0 L).filter (fun q => !(q.1 == i) && (!(q.1 == i + 1) && !(q.1 + 1 == i && q.2.category == 2))))) : lvk ls1 nL ((L.set i (some v)).set (i + 1) none) := by
  refine ⟨⟨h1.1, h1.2.1, fun q hq => ?_⟩, by rw [List.length_set, List.length_set]; exact h.2⟩
  obtain ⟨k, hk, e⟩ := lc_mem _ _ _ hq
  rw [Nat.zero_add] at e
  subst e
  apply h1.2.2
  have en : q.1 ≠ i + 1 := by
    intro e
    rw [List.getElem?_set] at hk
    rw [if_pos e.symm] at hk
    split at hk <;> cases hk
  rw [List.getElem?_set_ne (Ne.symm en)] at hk
  by_cases e : q.1 = i
  · rw [List.getElem?_set] at hk
    subst e
    have h2 : q.2 = v := by
      split at hk
      · split at hk
        · exact (Option.some.inj (Option.some.inj hk)).symm
        · cases hk
      · contradiction
    rw [← h2]
    exact List.mem_cons_self
  · rw [List.getElem?_set_ne (Ne.symm e)] at hk
    refine List.mem_cons_of_mem _ (List.mem_filter.mpr ⟨?_, ?_⟩)
    · have h3 := lc_in L 0 q.1 q.2 hk
      rw [Nat.zero_add] at h3
      exact h3
    · simp only [Bool.and_eq_true, Bool.not_eq_true', beq_eq_false_iff_ne, ne_eq, Bool.and_eq_false_iff]
      refine ⟨e, en, ?_⟩
      by_cases e2 : q.1 + 1 = i
      · right
        subst e2
        have h4 : L.getD q.1 none = some q.2 := by simp [List.getD, hk]
        have h5 : lc_1 (some q.2) = true := by
          have : lc_s L (q.1 + 1) = lc_1 (L.getD q.1 none) := rfl
          rw [← h4, ← this]; exact hs
        have h6 := lc_1_cat h5
        omega
      · exact Or.inl e2
/-- the locals with which a method begins -/
def lc_a : List Value → Nat → List (Option Value)
  | [], n => List.replicate n none
  | .long x :: r, n => some (.long x) :: none :: lc_a r (n - 2)
  | .double x :: r, n => some (.double x) :: none :: lc_a r (n - 2)
  | v :: r, n => some v :: lc_a r (n - 1)
theorem lc_a_args : ∀ (vs : List Value) (n i : Nat) (q : Nat × Value), q ∈ lc_p i (lc_a vs n) → q ∈ lv_args i vs
  | [], n, i, q, h => by
    obtain ⟨k, h1, -⟩ := lc_mem _ _ _ h
    simp only [lc_a] at h1
    rw [List.getElem?_replicate] at h1
    split at h1 <;> cases h1
  | v :: r, n, i, q, h => by
    cases v <;> first
      | (have h1 : q ∈ (i, _) :: lc_p (i + 1 + 1) (lc_a r (n - 2)) := h
         rcases List.mem_cons.mp h1 with e | e
         · subst e; exact List.mem_cons_self
         · exact List.mem_cons_of_mem _ (lc_a_args r (n - 2) (i + 2) q e))
      | (have h1 : q ∈ (i, _) :: lc_p (i + 1) (lc_a r (n - 1)) := h
         rcases List.mem_cons.mp h1 with e | e
         · subst e; exact List.mem_cons_self
         · exact List.mem_cons_of_mem _ (lc_a_args r (n - 1) (i + 1) q e))
/-! THE JUDGEMENT -/
def Cx (g : Gx) (M : Md) (p : Program) (s : State) (m : MethodId) (args : Array Value) (meth : Method) (c : Code) : Prop :=
  p.tables.exec = Jvm.exec ∧ c.code = md_b M ∧ c.maxLocals = md_n M ∧ meth.sig.returnType = md_r M ∧ s.vm.findClass (md_y M).cls = some m.cls ∧ (∀ w ∈ sg_tbl, w.before args s = true) ∧ meth.locks = false ∧ Tb g s ∧ meth.name = (md_y M).name ∧ gx_B g ≤ s.heap.size ∧ md_ok M
abbrev Zx : Type := List Frame → Array Value → State → State → Prop
/-- from this point of the method M the machine comes to Z -/
def Ok (g : Gx) (M : Md) (R : Room) (Z : Zx) (kc ks : Nat) (h : Hp) (pc : Nat) (L : List (Option Value)) (st : List Value) : Prop :=
  ∀ (p : Program) (e : Env) (s : State) (m : MethodId) (args : Array Value) (below : List Frame) (meth : Method) (c : Code) (H : Heap) (locs : List Loc) (ls : Array Slot),
    Cx g M p s m args meth c → Wd g h H → (∀ q ∈ locs, gx_B g ≤ q.base) → lvk ls (md_n M) L → W p (gx_l g) e R s m args below meth c H locs kc ks (Z below args s) (F0 m pc ls st)
def Qx (g : Gx) (Q : Option Value → Hp → Prop) : Array Value → State → Outcome → State → Prop := fun _ _ o t => ∃ (r : Option Value) (h : Hp), o = .returned r ∧ Q r h ∧ Wd g h t.heap ∧ Tb g t
def rmd (d mc ms : Nat) : Room := { frames := d, cells := mc, slots := ms, locals := 48 * d }
def Zm (g : Gx) (mc ms : Nat) (Q : Option Value → Hp → Prop) : Zx := fun below args s => MQ below (Qx g Q) args s mc ms (fun q => gx_B g ≤ q)
/-- the contract: at depth d, with mc cells of ms slots at most -/
def Ct (g : Gx) (M : Md) (d mc ms : Nat) (As : List Value) (h : Hp) (Q : Option Value → Hp → Prop) : Prop :=
  Met (gx_l g) (md_y M) (md_ws M) (rmd d mc ms) (va_Pc As (fun U => Wd g h U.heap ∧ Tb g U)) (Qx g Q) mc ms (fun q => gx_B g ≤ q)
set_option maxHeartbeats 1000000 in
theorem ct_of {g : Gx} {M : Md} {d mc ms : Nat} {As : List Value} {h : Hp} {Q : Option Value → Hp → Prop} (hM : md_ok M) (hy : plainName (md_y M).cls = true) (hl : (lg_sl As).length ≤ md_n M) (L : List (Option Value)) (hL : lc_a As (md_n M) = L) (hL2 : L.length = md_n M)
    (k : Ok g M (rmd d mc ms) (Zm g mc ms Q) 0 0 h 0 L []) : Ct g M d mc ms As h Q := by
  refine Met.ofW (cc := md_b M) (maxL := md_n M) (ret := md_r M) hy rfl ?_
  intro p e s m args below meth c s₁ B hml hv
  obtain ⟨rfl, hW, hT⟩ := hv
  have hts := atoms_spec (ws := md_ws M) B.pre
  have he := lv_entry As hl
  rw [lg_entry_eq]
  refine k p e s m As.toArray below meth c s.heap [] _ ⟨B.exec, B.bytes, hml, B.returns, findClass_of_methodNamed B.named, fun w hw => hts w (List.mem_cons_of_mem _ hw), B.notSynchronized, hT, (name_of_methodNamed B.named B.method).1, ?_, hM⟩ hW (fun q hq => by cases hq) ⟨⟨he.1, he.2.1, fun q hq => he.2.2 q ?_⟩, hL2⟩
  · rw [hW.1]; exact hW.2.1
  · rw [← hL] at hq
    exact lc_a_args As (md_n M) 0 q hq
section ROWS
variable {g : Gx} {M : Md} {R : Room} {Z : Zx} {kc ks : Nat} {h : Hp} {pc : Nat} {L : List (Option Value)} {st : List Value}
theorem k_iconst {n x0 y0 : Nat} {i : Int} {v : Int32} (hf : md_f M pc = some (.iconst i, 1, n, x0, y0)) (hv : Int32.ofInt i = v) (k : Ok g M R Z kc ks h n L (.int v :: st)) : Ok g M R Z kc ks h pc L (st) := by
  intro p e s m args below meth c H locs ls C hW hF hl
  obtain ⟨hd, hn, ho⟩ := md_dec C.2.2.2.2.2.2.2.2.2.2 hf
  subst hn
  exact lv_iconst C.1 C.2.1 hd hv (k p e s m args below meth c H locs ls C hW hF hl)
theorem k_bipush {n x0 y0 : Nat} {i : Int} {v : Int32} (hf : md_f M pc = some (.bipush i, 2, n, x0, y0)) (hv : (Int8.ofInt i).toInt32 = v) (k : Ok g M R Z kc ks h n L (.int v :: st)) : Ok g M R Z kc ks h pc L (st) := by
  intro p e s m args below meth c H locs ls C hW hF hl
  obtain ⟨hd, hn, ho⟩ := md_dec C.2.2.2.2.2.2.2.2.2.2 hf
  subst hn
  exact lv_bipush C.1 C.2.1 hd hv (k p e s m args below meth c H locs ls C hW hF hl)
theorem k_sipush {n x0 y0 : Nat} {i : Int} {v : Int32} (hf : md_f M pc = some (.sipush i, 3, n, x0, y0)) (hv : (Int16.ofInt i).toInt32 = v) (k : Ok g M R Z kc ks h n L (.int v :: st)) : Ok g M R Z kc ks h pc L (st) := by
  intro p e s m args below meth c H locs ls C hW hF hl
  obtain ⟨hd, hn, ho⟩ := md_dec C.2.2.2.2.2.2.2.2.2.2 hf
  subst hn
  exact lv_sipush C.1 C.2.1 hd hv (k p e s m args below meth c H locs ls C hW hF hl)
theorem k_lconst {n x0 y0 : Nat} {i : Fin 2} {v : Int64} (hf : md_f M pc = some (.lconst i, 1, n, x0, y0)) (hv : Int64.ofNat (i : Nat) = v) (k : Ok g M R Z kc ks h n L (.long v :: st)) : Ok g M R Z kc ks h pc L (st) := by
  intro p e s m args below meth c H locs ls C hW hF hl
  obtain ⟨hd, hn, ho⟩ := md_dec C.2.2.2.2.2.2.2.2.2.2 hf
  subst hn
  exact lv_lconst C.1 C.2.1 hd hv (k p e s m args below meth c H locs ls C hW hF hl)
theorem k_null {n x0 y0 : Nat}  (hf : md_f M pc = some (.aconst_null, 1, n, x0, y0))  (k : Ok g M R Z kc ks h n L (.null :: st)) : Ok g M R Z kc ks h pc L (st) := by
  intro p e s m args below meth c H locs ls C hW hF hl
  obtain ⟨hd, hn, ho⟩ := md_dec C.2.2.2.2.2.2.2.2.2.2 hf
  subst hn
  exact lv_null C.1 C.2.1 hd  (k p e s m args below meth c H locs ls C hW hF hl)
theorem k_ldc {n x0 y0 : Nat} {idx : Nat} {v : Int32} (hf : md_f M pc = some (.ldc idx, 2, n, x0, y0)) (hw : Cond.constant (md_y M).cls idx v ∈ sg_tbl) (k : Ok g M R Z kc ks h n L (.int v :: st)) : Ok g M R Z kc ks h pc L st := by
  intro p e s m args below meth c H locs ls C hW hF hl
  obtain ⟨hd, hn, ho⟩ := md_dec C.2.2.2.2.2.2.2.2.2.2 hf
  subst hn
  exact lv_ldc C.1 C.2.1 C.2.2.2.2.1 (C.2.2.2.2.2.1 _ hw) hd (k p e s m args below meth c H locs ls C hW hF hl)
theorem k_ldc2 {n x0 y0 : Nat} {idx : Nat} {v : Int64} (hf : md_f M pc = some (.ldc2_w idx, 3, n, x0, y0)) (hw : Cond.constantLong (md_y M).cls idx v ∈ sg_tbl) (k : Ok g M R Z kc ks h n L (.long v :: st)) : Ok g M R Z kc ks h pc L st := by
  intro p e s m args below meth c H locs ls C hW hF hl
  obtain ⟨hd, hn, ho⟩ := md_dec C.2.2.2.2.2.2.2.2.2.2 hf
  subst hn
  exact lv_ldc2 C.1 C.2.1 C.2.2.2.2.1 (C.2.2.2.2.2.1 _ hw) hd (k p e s m args below meth c H locs ls C hW hF hl)
theorem k_iload {n x0 y0 : Nat} {i : Nat} {x : Int32} (hf : md_f M pc = some (.iload i, 2, n, x0, y0)) (hx : L[i]? = some (some (.int x))) (k : Ok g M R Z kc ks h n L (.int x :: st)) : Ok g M R Z kc ks h pc L st := by
  intro p e s m args below meth c H locs ls C hW hF hl
  obtain ⟨hd, hn, ho⟩ := md_dec C.2.2.2.2.2.2.2.2.2.2 hf
  subst hn
  exact lv_iload C.1 C.2.1 hd (lvk_at hl hx) (k p e s m args below meth c H locs ls C hW hF hl)
theorem k_iload_n {n x0 y0 : Nat} {i : Fin 4} {x : Int32} (hf : md_f M pc = some (.iload_n i, 1, n, x0, y0)) (hx : L[(i : Nat)]? = some (some (.int x))) (k : Ok g M R Z kc ks h n L (.int x :: st)) : Ok g M R Z kc ks h pc L st := by
  intro p e s m args below meth c H locs ls C hW hF hl
  obtain ⟨hd, hn, ho⟩ := md_dec C.2.2.2.2.2.2.2.2.2.2 hf
  subst hn
  exact lv_iload_n C.1 C.2.1 hd rfl (lvk_at hl hx) (k p e s m args below meth c H locs ls C hW hF hl)
theorem k_lload {n x0 y0 : Nat} {i : Nat} {x : Int64} (hf : md_f M pc = some (.lload i, 2, n, x0, y0)) (hx : L[i]? = some (some (.long x))) (k : Ok g M R Z kc ks h n L (.long x :: st)) : Ok g M R Z kc ks h pc L st := by
  intro p e s m args below meth c H locs ls C hW hF hl
  obtain ⟨hd, hn, ho⟩ := md_dec C.2.2.2.2.2.2.2.2.2.2 hf
  subst hn
  exact lv_lload C.1 C.2.1 hd (lvk_at hl hx) (k p e s m args below meth c H locs ls C hW hF hl)
theorem k_lload_n {n x0 y0 : Nat} {i : Fin 4} {x : Int64} (hf : md_f M pc = some (.lload_n i, 1, n, x0, y0)) (hx : L[(i : Nat)]? = some (some (.long x))) (k : Ok g M R Z kc ks h n L (.long x :: st)) : Ok g M R Z kc ks h pc L st := by
  intro p e s m args below meth c H locs ls C hW hF hl
  obtain ⟨hd, hn, ho⟩ := md_dec C.2.2.2.2.2.2.2.2.2.2 hf
  subst hn
  exact lv_lload_n C.1 C.2.1 hd rfl (lvk_at hl hx) (k p e s m args below meth c H locs ls C hW hF hl)
theorem k_aload {n x0 y0 : Nat} {i : Nat} {x : Nat} (hf : md_f M pc = some (.aload i, 2, n, x0, y0)) (hx : L[i]? = some (some (.ref x))) (k : Ok g M R Z kc ks h n L (.ref x :: st)) : Ok g M R Z kc ks h pc L st := by
  intro p e s m args below meth c H locs ls C hW hF hl
  obtain ⟨hd, hn, ho⟩ := md_dec C.2.2.2.2.2.2.2.2.2.2 hf
  subst hn
  exact lv_aload C.1 C.2.1 hd (lvk_at hl hx) (k p e s m args below meth c H locs ls C hW hF hl)
theorem k_aload_n {n x0 y0 : Nat} {i : Fin 4} {x : Nat} (hf : md_f M pc = some (.aload_n i, 1, n, x0, y0)) (hx : L[(i : Nat)]? = some (some (.ref x))) (k : Ok g M R Z kc ks h n L (.ref x :: st)) : Ok g M R Z kc ks h pc L st := by
  intro p e s m args below meth c H locs ls C hW hF hl
  obtain ⟨hd, hn, ho⟩ := md_dec C.2.2.2.2.2.2.2.2.2.2 hf
  subst hn
  exact lv_aload_n C.1 C.2.1 hd rfl (lvk_at hl hx) (k p e s m args below meth c H locs ls C hW hF hl)
theorem k_istore {n x0 y0 : Nat} {i : Nat} {x : Int32} {L1 : List (Option Value)} (hf : md_f M pc = some (.istore i, 2, n, x0, y0)) (hi : i < L.length) (hs : lc_s L i = true) (hL : L.set i (some (.int x)) = L1) (k : Ok g M R Z kc ks h n L1 st) : Ok g M R Z kc ks h pc L (.int x :: st) := by
  intro p e s m args below meth c H locs ls C hW hF hl
  obtain ⟨hd, hn, ho⟩ := md_dec C.2.2.2.2.2.2.2.2.2.2 hf
  subst hn
  subst hL
  exact lv_istore C.1 C.2.1 hd hl.1 (by rw [← hl.2]; exact hi) rfl (fun ls1 h1 => k p e s m args below meth c H locs ls1 C hW hF (lc_st1 hl hs h1))
theorem k_istore_n {n x0 y0 : Nat} {i : Fin 4} {x : Int32} {L1 : List (Option Value)} (hf : md_f M pc = some (.istore_n i, 1, n, x0, y0)) (hi : (i : Nat) < L.length) (hs : lc_s L (i : Nat) = true) (hL : L.set (i : Nat) (some (.int x)) = L1) (k : Ok g M R Z kc ks h n L1 st) : Ok g M R Z kc ks h pc L (.int x :: st) := by
  intro p e s m args below meth c H locs ls C hW hF hl
  obtain ⟨hd, hn, ho⟩ := md_dec C.2.2.2.2.2.2.2.2.2.2 hf
  subst hn
  subst hL
  exact lv_istore_n C.1 C.2.1 hd rfl hl.1 (by rw [← hl.2]; exact hi) rfl (fun ls1 h1 => k p e s m args below meth c H locs ls1 C hW hF (lc_st1 hl hs h1))
theorem k_lstore {n x0 y0 : Nat} {i : Nat} {x : Int64} {L1 : List (Option Value)} (hf : md_f M pc = some (.lstore i, 2, n, x0, y0)) (hi : i + 1 < L.length) (hs : lc_s L i = true) (hL : (L.set i (some (.long x))).set (i + 1) none = L1) (k : Ok g M R Z kc ks h n L1 st) : Ok g M R Z kc ks h pc L (.long x :: st) := by
  intro p e s m args below meth c H locs ls C hW hF hl
  obtain ⟨hd, hn, ho⟩ := md_dec C.2.2.2.2.2.2.2.2.2.2 hf
  subst hn
  subst hL
  exact lv_lstore C.1 C.2.1 hd hl.1 (by rw [← hl.2]; exact hi) rfl (fun ls1 h1 => k p e s m args below meth c H locs ls1 C hW hF (lc_st2 hl hs h1))
theorem k_lstore_n {n x0 y0 : Nat} {i : Fin 4} {x : Int64} {L1 : List (Option Value)} (hf : md_f M pc = some (.lstore_n i, 1, n, x0, y0)) (hi : (i : Nat) + 1 < L.length) (hs : lc_s L (i : Nat) = true) (hL : (L.set (i : Nat) (some (.long x))).set ((i : Nat) + 1) none = L1) (k : Ok g M R Z kc ks h n L1 st) : Ok g M R Z kc ks h pc L (.long x :: st) := by
  intro p e s m args below meth c H locs ls C hW hF hl
  obtain ⟨hd, hn, ho⟩ := md_dec C.2.2.2.2.2.2.2.2.2.2 hf
  subst hn
  subst hL
  exact lv_lstore_n C.1 C.2.1 hd rfl hl.1 (by rw [← hl.2]; exact hi) rfl (fun ls1 h1 => k p e s m args below meth c H locs ls1 C hW hF (lc_st2 hl hs h1))
theorem k_astore {n x0 y0 : Nat} {i : Nat} {x : Nat} {L1 : List (Option Value)} (hf : md_f M pc = some (.astore i, 2, n, x0, y0)) (hi : i < L.length) (hs : lc_s L i = true) (hL : L.set i (some (.ref x)) = L1) (k : Ok g M R Z kc ks h n L1 st) : Ok g M R Z kc ks h pc L (.ref x :: st) := by
  intro p e s m args below meth c H locs ls C hW hF hl
  obtain ⟨hd, hn, ho⟩ := md_dec C.2.2.2.2.2.2.2.2.2.2 hf
  subst hn
  subst hL
  exact lv_astore C.1 C.2.1 hd hl.1 (by rw [← hl.2]; exact hi) rfl (fun ls1 h1 => k p e s m args below meth c H locs ls1 C hW hF (lc_st1 hl hs h1))
theorem k_astore_n {n x0 y0 : Nat} {i : Fin 4} {x : Nat} {L1 : List (Option Value)} (hf : md_f M pc = some (.astore_n i, 1, n, x0, y0)) (hi : (i : Nat) < L.length) (hs : lc_s L (i : Nat) = true) (hL : L.set (i : Nat) (some (.ref x)) = L1) (k : Ok g M R Z kc ks h n L1 st) : Ok g M R Z kc ks h pc L (.ref x :: st) := by
  intro p e s m args below meth c H locs ls C hW hF hl
  obtain ⟨hd, hn, ho⟩ := md_dec C.2.2.2.2.2.2.2.2.2.2 hf
  subst hn
  subst hL
  exact lv_astore_n C.1 C.2.1 hd rfl hl.1 (by rw [← hl.2]; exact hi) rfl (fun ls1 h1 => k p e s m args below meth c H locs ls1 C hW hF (lc_st1 hl hs h1))
theorem k_iinc {n x0 y0 : Nat} {i : Nat} {u : Int} {x v : Int32} {L1 : List (Option Value)} (hf : md_f M pc = some (.iinc i u, 3, n, x0, y0)) (hx : L[i]? = some (some (.int x))) (hv : x + Int32.ofInt u = v) (hs : lc_s L i = true) (hL : L.set i (some (.int v)) = L1) (k : Ok g M R Z kc ks h n L1 st) : Ok g M R Z kc ks h pc L st := by
  intro p e s m args below meth c H locs ls C hW hF hl
  obtain ⟨hd, hn, ho⟩ := md_dec C.2.2.2.2.2.2.2.2.2.2 hf
  subst hn
  subst hL
  have h1 := lc_in L 0 i _ hx
  rw [Nat.zero_add] at h1
  obtain ⟨q, hq⟩ := List.getElem?_of_mem h1
  have hi : i < L.length := (List.getElem?_eq_some_iff.mp hx).1
  exact lv_iinc C.1 C.2.1 hd hl.1 (k := q) hq hv (by rw [← hl.2]; exact hi) rfl (fun ls1 h1 => k p e s m args below meth c H locs ls1 C hW hF (lc_st1 hl hs h1))
theorem k_iadd {n x0 y0 : Nat} {x y : Int32} (hf : md_f M pc = some (.iadd, 1, n, x0, y0))  (k : Ok g M R Z kc ks h n L (.int (x + y) :: st)) : Ok g M R Z kc ks h pc L (.int y :: .int x :: st) := by
  intro p e s m args below meth c H locs ls C hW hF hl
  obtain ⟨hd, hn, ho⟩ := md_dec C.2.2.2.2.2.2.2.2.2.2 hf
  subst hn
  exact lv_iadd C.1 C.2.1 hd  (k p e s m args below meth c H locs ls C hW hF hl)
theorem k_isub {n x0 y0 : Nat} {x y : Int32} (hf : md_f M pc = some (.isub, 1, n, x0, y0))  (k : Ok g M R Z kc ks h n L (.int (x - y) :: st)) : Ok g M R Z kc ks h pc L (.int y :: .int x :: st) := by
  intro p e s m args below meth c H locs ls C hW hF hl
  obtain ⟨hd, hn, ho⟩ := md_dec C.2.2.2.2.2.2.2.2.2.2 hf
  subst hn
  exact lv_isub C.1 C.2.1 hd  (k p e s m args below meth c H locs ls C hW hF hl)
theorem k_imul {n x0 y0 : Nat} {x y : Int32} (hf : md_f M pc = some (.imul, 1, n, x0, y0))  (k : Ok g M R Z kc ks h n L (.int (x * y) :: st)) : Ok g M R Z kc ks h pc L (.int y :: .int x :: st) := by
  intro p e s m args below meth c H locs ls C hW hF hl
  obtain ⟨hd, hn, ho⟩ := md_dec C.2.2.2.2.2.2.2.2.2.2 hf
  subst hn
  exact lv_imul C.1 C.2.1 hd  (k p e s m args below meth c H locs ls C hW hF hl)
theorem k_iand {n x0 y0 : Nat} {x y : Int32} (hf : md_f M pc = some (.iand, 1, n, x0, y0))  (k : Ok g M R Z kc ks h n L (.int (x &&& y) :: st)) : Ok g M R Z kc ks h pc L (.int y :: .int x :: st) := by
  intro p e s m args below meth c H locs ls C hW hF hl
  obtain ⟨hd, hn, ho⟩ := md_dec C.2.2.2.2.2.2.2.2.2.2 hf
  subst hn
  exact lv_iand C.1 C.2.1 hd  (k p e s m args below meth c H locs ls C hW hF hl)
theorem k_ior {n x0 y0 : Nat} {x y : Int32} (hf : md_f M pc = some (.ior, 1, n, x0, y0))  (k : Ok g M R Z kc ks h n L (.int (x ||| y) :: st)) : Ok g M R Z kc ks h pc L (.int y :: .int x :: st) := by
  intro p e s m args below meth c H locs ls C hW hF hl
  obtain ⟨hd, hn, ho⟩ := md_dec C.2.2.2.2.2.2.2.2.2.2 hf
  subst hn
  exact lv_ior C.1 C.2.1 hd  (k p e s m args below meth c H locs ls C hW hF hl)
theorem k_ixor {n x0 y0 : Nat} {x y : Int32} (hf : md_f M pc = some (.ixor, 1, n, x0, y0))  (k : Ok g M R Z kc ks h n L (.int (x ^^^ y) :: st)) : Ok g M R Z kc ks h pc L (.int y :: .int x :: st) := by
  intro p e s m args below meth c H locs ls C hW hF hl
  obtain ⟨hd, hn, ho⟩ := md_dec C.2.2.2.2.2.2.2.2.2.2 hf
  subst hn
  exact lv_ixor C.1 C.2.1 hd  (k p e s m args below meth c H locs ls C hW hF hl)
theorem k_idiv {n x0 y0 : Nat} {x y : Int32} (hf : md_f M pc = some (.idiv, 1, n, x0, y0)) (hy : ¬ y = 0) (k : Ok g M R Z kc ks h n L (.int (x / y) :: st)) : Ok g M R Z kc ks h pc L (.int y :: .int x :: st) := by
  intro p e s m args below meth c H locs ls C hW hF hl
  obtain ⟨hd, hn, ho⟩ := md_dec C.2.2.2.2.2.2.2.2.2.2 hf
  subst hn
  exact lv_idiv C.1 C.2.1 hd hy (k p e s m args below meth c H locs ls C hW hF hl)
theorem k_irem {n x0 y0 : Nat} {x y : Int32} (hf : md_f M pc = some (.irem, 1, n, x0, y0)) (hy : ¬ y = 0) (k : Ok g M R Z kc ks h n L (.int (x - x / y * y) :: st)) : Ok g M R Z kc ks h pc L (.int y :: .int x :: st) := by
  intro p e s m args below meth c H locs ls C hW hF hl
  obtain ⟨hd, hn, ho⟩ := md_dec C.2.2.2.2.2.2.2.2.2.2 hf
  subst hn
  exact lv_irem C.1 C.2.1 hd hy (k p e s m args below meth c H locs ls C hW hF hl)
theorem k_ladd {n x0 y0 : Nat} {x y : Int64} (hf : md_f M pc = some (.ladd, 1, n, x0, y0))  (k : Ok g M R Z kc ks h n L (.long (x + y) :: st)) : Ok g M R Z kc ks h pc L (.long y :: .long x :: st) := by
  intro p e s m args below meth c H locs ls C hW hF hl
  obtain ⟨hd, hn, ho⟩ := md_dec C.2.2.2.2.2.2.2.2.2.2 hf
  subst hn
  exact lv_ladd C.1 C.2.1 hd  (k p e s m args below meth c H locs ls C hW hF hl)
theorem k_lsub {n x0 y0 : Nat} {x y : Int64} (hf : md_f M pc = some (.lsub, 1, n, x0, y0))  (k : Ok g M R Z kc ks h n L (.long (x - y) :: st)) : Ok g M R Z kc ks h pc L (.long y :: .long x :: st) := by
  intro p e s m args below meth c H locs ls C hW hF hl
  obtain ⟨hd, hn, ho⟩ := md_dec C.2.2.2.2.2.2.2.2.2.2 hf
  subst hn
  exact lv_lsub C.1 C.2.1 hd  (k p e s m args below meth c H locs ls C hW hF hl)
theorem k_lmul {n x0 y0 : Nat} {x y : Int64} (hf : md_f M pc = some (.lmul, 1, n, x0, y0))  (k : Ok g M R Z kc ks h n L (.long (x * y) :: st)) : Ok g M R Z kc ks h pc L (.long y :: .long x :: st) := by
  intro p e s m args below meth c H locs ls C hW hF hl
  obtain ⟨hd, hn, ho⟩ := md_dec C.2.2.2.2.2.2.2.2.2.2 hf
  subst hn
  exact lv_lmul C.1 C.2.1 hd  (k p e s m args below meth c H locs ls C hW hF hl)
theorem k_ldiv {n x0 y0 : Nat} {x y : Int64} (hf : md_f M pc = some (.ldiv, 1, n, x0, y0)) (hy : ¬ y = 0) (k : Ok g M R Z kc ks h n L (.long (x / y) :: st)) : Ok g M R Z kc ks h pc L (.long y :: .long x :: st) := by
  intro p e s m args below meth c H locs ls C hW hF hl
  obtain ⟨hd, hn, ho⟩ := md_dec C.2.2.2.2.2.2.2.2.2.2 hf
  subst hn
  exact lv_ldiv C.1 C.2.1 hd hy (k p e s m args below meth c H locs ls C hW hF hl)
theorem k_lrem {n x0 y0 : Nat} {x y : Int64} (hf : md_f M pc = some (.lrem, 1, n, x0, y0)) (hy : ¬ y = 0) (k : Ok g M R Z kc ks h n L (.long (x - x / y * y) :: st)) : Ok g M R Z kc ks h pc L (.long y :: .long x :: st) := by
  intro p e s m args below meth c H locs ls C hW hF hl
  obtain ⟨hd, hn, ho⟩ := md_dec C.2.2.2.2.2.2.2.2.2.2 hf
  subst hn
  exact lv_lrem C.1 C.2.1 hd hy (k p e s m args below meth c H locs ls C hW hF hl)
theorem k_i2l {n x0 y0 : Nat} {x : Int32} (hf : md_f M pc = some (.i2l, 1, n, x0, y0))  (k : Ok g M R Z kc ks h n L (.long x.toInt64 :: st)) : Ok g M R Z kc ks h pc L (.int x :: st) := by
  intro p e s m args below meth c H locs ls C hW hF hl
  obtain ⟨hd, hn, ho⟩ := md_dec C.2.2.2.2.2.2.2.2.2.2 hf
  subst hn
  exact lv_i2l C.1 C.2.1 hd rfl (k p e s m args below meth c H locs ls C hW hF hl)
theorem k_l2i {n x0 y0 : Nat} {x : Int64} (hf : md_f M pc = some (.l2i, 1, n, x0, y0))  (k : Ok g M R Z kc ks h n L (.int x.toInt32 :: st)) : Ok g M R Z kc ks h pc L (.long x :: st) := by
  intro p e s m args below meth c H locs ls C hW hF hl
  obtain ⟨hd, hn, ho⟩ := md_dec C.2.2.2.2.2.2.2.2.2.2 hf
  subst hn
  exact lv_l2i C.1 C.2.1 hd rfl (k p e s m args below meth c H locs ls C hW hF hl)
theorem k_lcmp {n x0 y0 : Nat} {x y : Int64} (hf : md_f M pc = some (.lcmp, 1, n, x0, y0))  (k : Ok g M R Z kc ks h n L (.int (lg_cmp x y) :: st)) : Ok g M R Z kc ks h pc L (.long y :: .long x :: st) := by
  intro p e s m args below meth c H locs ls C hW hF hl
  obtain ⟨hd, hn, ho⟩ := md_dec C.2.2.2.2.2.2.2.2.2.2 hf
  subst hn
  exact W.lcmp C.1 C.2.1 hd  (k p e s m args below meth c H locs ls C hW hF hl)
theorem k_ineg {n x0 y0 : Nat} {x : Int32} (hf : md_f M pc = some (.ineg, 1, n, x0, y0))  (k : Ok g M R Z kc ks h n L (.int (-x) :: st)) : Ok g M R Z kc ks h pc L (.int x :: st) := by
  intro p e s m args below meth c H locs ls C hW hF hl
  obtain ⟨hd, hn, ho⟩ := md_dec C.2.2.2.2.2.2.2.2.2.2 hf
  subst hn
  exact lv_ineg C.1 C.2.1 hd  (k p e s m args below meth c H locs ls C hW hF hl)
theorem k_lneg {n x0 y0 : Nat} {x : Int64} (hf : md_f M pc = some (.lneg, 1, n, x0, y0))  (k : Ok g M R Z kc ks h n L (.long (-x) :: st)) : Ok g M R Z kc ks h pc L (.long x :: st) := by
  intro p e s m args below meth c H locs ls C hW hF hl
  obtain ⟨hd, hn, ho⟩ := md_dec C.2.2.2.2.2.2.2.2.2.2 hf
  subst hn
  exact lv_lneg C.1 C.2.1 hd  (k p e s m args below meth c H locs ls C hW hF hl)
theorem k_dup {n x0 y0 : Nat} {a : Value} (hf : md_f M pc = some (.dup, 1, n, x0, y0)) (ha : a.category = 1) (k : Ok g M R Z kc ks h n L (a :: a :: st)) : Ok g M R Z kc ks h pc L (a :: st) := by
  intro p e s m args below meth c H locs ls C hW hF hl
  obtain ⟨hd, hn, ho⟩ := md_dec C.2.2.2.2.2.2.2.2.2.2 hf
  subst hn
  exact lv_dup C.1 C.2.1 hd ha (k p e s m args below meth c H locs ls C hW hF hl)
theorem k_pop {n x0 y0 : Nat} {a : Value} (hf : md_f M pc = some (.pop, 1, n, x0, y0)) (ha : a.category = 1) (k : Ok g M R Z kc ks h n L (st)) : Ok g M R Z kc ks h pc L (a :: st) := by
  intro p e s m args below meth c H locs ls C hW hF hl
  obtain ⟨hd, hn, ho⟩ := md_dec C.2.2.2.2.2.2.2.2.2.2 hf
  subst hn
  exact lv_pop C.1 C.2.1 hd ha (k p e s m args below meth c H locs ls C hW hF hl)
theorem k_dup2 {n x0 y0 : Nat} {a b : Value} (hf : md_f M pc = some (.dup2, 1, n, x0, y0)) (ha : a.category = 1) (hb : b.category = 1) (k : Ok g M R Z kc ks h n L (a :: b :: a :: b :: st)) : Ok g M R Z kc ks h pc L (a :: b :: st) := by
  intro p e s m args below meth c H locs ls C hW hF hl
  obtain ⟨hd, hn, ho⟩ := md_dec C.2.2.2.2.2.2.2.2.2.2 hf
  subst hn
  exact lv_dup2_11 C.1 C.2.1 hd ha hb (k p e s m args below meth c H locs ls C hW hF hl)
theorem k_dup_x1 {n x0 y0 : Nat} {a b : Value} (hf : md_f M pc = some (.dup_x1, 1, n, x0, y0)) (ha : a.category = 1) (hb : b.category = 1) (k : Ok g M R Z kc ks h n L (a :: b :: a :: st)) : Ok g M R Z kc ks h pc L (a :: b :: st) := by
  intro p e s m args below meth c H locs ls C hW hF hl
  obtain ⟨hd, hn, ho⟩ := md_dec C.2.2.2.2.2.2.2.2.2.2 hf
  subst hn
  exact lv_dup_x1 C.1 C.2.1 hd ha hb (k p e s m args below meth c H locs ls C hW hF hl)
theorem k_dup_x2 {n x0 y0 : Nat} {a b d : Value} (hf : md_f M pc = some (.dup_x2, 1, n, x0, y0)) (ha : a.category = 1) (hb : b.category = 1) (hc : d.category = 1) (k : Ok g M R Z kc ks h n L (a :: b :: d :: a :: st)) : Ok g M R Z kc ks h pc L (a :: b :: d :: st) := by
  intro p e s m args below meth c H locs ls C hW hF hl
  obtain ⟨hd, hn, ho⟩ := md_dec C.2.2.2.2.2.2.2.2.2.2 hf
  subst hn
  exact lv_dup_x2 C.1 C.2.1 hd ha hb hc (k p e s m args below meth c H locs ls C hW hF hl)
theorem k_dup2_2 {n x0 y0 : Nat} {a : Value} (hf : md_f M pc = some (.dup2, 1, n, x0, y0)) (ha : a.category = 2) (k : Ok g M R Z kc ks h n L (a :: a :: st)) : Ok g M R Z kc ks h pc L (a :: st) := by
  intro p e s m args below meth c H locs ls C hW hF hl
  obtain ⟨hd, hn, ho⟩ := md_dec C.2.2.2.2.2.2.2.2.2.2 hf
  subst hn
  exact lv_dup2_2 C.1 C.2.1 hd ha (k p e s m args below meth c H locs ls C hW hF hl)
theorem k_pop2_2 {n x0 y0 : Nat} {a : Value} (hf : md_f M pc = some (.pop2, 1, n, x0, y0)) (ha : a.category = 2) (k : Ok g M R Z kc ks h n L (st)) : Ok g M R Z kc ks h pc L (a :: st) := by
  intro p e s m args below meth c H locs ls C hW hF hl
  obtain ⟨hd, hn, ho⟩ := md_dec C.2.2.2.2.2.2.2.2.2.2 hf
  subst hn
  exact lv_pop2_2 C.1 C.2.1 hd ha (k p e s m args below meth c H locs ls C hW hF hl)
theorem k_icmp_eq {n x0 y0 : Nat} {o : Int} {x y : Int32} (hf : md_f M pc = some (.if_icmp .eq o, 3, n, x0, y0)) (kt : x = y → Ok g M R Z kc ks h x0 L st) (kf : ¬ (x = y) → Ok g M R Z kc ks h n L st) : Ok g M R Z kc ks h pc L (.int y :: .int x :: st) := by
  intro p e s m args below meth c H locs ls C hW hF hl
  obtain ⟨hd, hn, ho⟩ := md_dec C.2.2.2.2.2.2.2.2.2.2 hf
  subst hn
  exact lv_icmp_eq C.1 C.2.1 hd (ho _ rfl) (fun q => kt q p e s m args below meth c H locs ls C hW hF hl) (fun q => kf q p e s m args below meth c H locs ls C hW hF hl)
theorem k_if_eq {n x0 y0 : Nat} {o : Int} {x : Int32} (hf : md_f M pc = some (.ifCond .eq o, 3, n, x0, y0)) (kt : x = 0 → Ok g M R Z kc ks h x0 L st) (kf : ¬ (x = 0) → Ok g M R Z kc ks h n L st) : Ok g M R Z kc ks h pc L (.int x :: st) := by
  intro p e s m args below meth c H locs ls C hW hF hl
  obtain ⟨hd, hn, ho⟩ := md_dec C.2.2.2.2.2.2.2.2.2.2 hf
  subst hn
  exact lv_if_eq C.1 C.2.1 hd (ho _ rfl) (fun q => kt q p e s m args below meth c H locs ls C hW hF hl) (fun q => kf q p e s m args below meth c H locs ls C hW hF hl)
theorem k_icmp_ne {n x0 y0 : Nat} {o : Int} {x y : Int32} (hf : md_f M pc = some (.if_icmp .ne o, 3, n, x0, y0)) (kt : ¬ x = y → Ok g M R Z kc ks h x0 L st) (kf : x = y → Ok g M R Z kc ks h n L st) : Ok g M R Z kc ks h pc L (.int y :: .int x :: st) := by
  intro p e s m args below meth c H locs ls C hW hF hl
  obtain ⟨hd, hn, ho⟩ := md_dec C.2.2.2.2.2.2.2.2.2.2 hf
  subst hn
  exact lv_icmp_ne C.1 C.2.1 hd (ho _ rfl) (fun q => kt q p e s m args below meth c H locs ls C hW hF hl) (fun q => kf q p e s m args below meth c H locs ls C hW hF hl)
theorem k_if_ne {n x0 y0 : Nat} {o : Int} {x : Int32} (hf : md_f M pc = some (.ifCond .ne o, 3, n, x0, y0)) (kt : ¬ x = 0 → Ok g M R Z kc ks h x0 L st) (kf : x = 0 → Ok g M R Z kc ks h n L st) : Ok g M R Z kc ks h pc L (.int x :: st) := by
  intro p e s m args below meth c H locs ls C hW hF hl
  obtain ⟨hd, hn, ho⟩ := md_dec C.2.2.2.2.2.2.2.2.2.2 hf
  subst hn
  exact lv_if_ne C.1 C.2.1 hd (ho _ rfl) (fun q => kt q p e s m args below meth c H locs ls C hW hF hl) (fun q => kf q p e s m args below meth c H locs ls C hW hF hl)
theorem k_icmp_lt {n x0 y0 : Nat} {o : Int} {x y : Int32} (hf : md_f M pc = some (.if_icmp .lt o, 3, n, x0, y0)) (kt : x < y → Ok g M R Z kc ks h x0 L st) (kf : ¬ (x < y) → Ok g M R Z kc ks h n L st) : Ok g M R Z kc ks h pc L (.int y :: .int x :: st) := by
  intro p e s m args below meth c H locs ls C hW hF hl
  obtain ⟨hd, hn, ho⟩ := md_dec C.2.2.2.2.2.2.2.2.2.2 hf
  subst hn
  exact lv_icmp_lt C.1 C.2.1 hd (ho _ rfl) (fun q => kt q p e s m args below meth c H locs ls C hW hF hl) (fun q => kf q p e s m args below meth c H locs ls C hW hF hl)
theorem k_if_lt {n x0 y0 : Nat} {o : Int} {x : Int32} (hf : md_f M pc = some (.ifCond .lt o, 3, n, x0, y0)) (kt : x < 0 → Ok g M R Z kc ks h x0 L st) (kf : ¬ (x < 0) → Ok g M R Z kc ks h n L st) : Ok g M R Z kc ks h pc L (.int x :: st) := by
  intro p e s m args below meth c H locs ls C hW hF hl
  obtain ⟨hd, hn, ho⟩ := md_dec C.2.2.2.2.2.2.2.2.2.2 hf
  subst hn
  exact lv_if_lt C.1 C.2.1 hd (ho _ rfl) (fun q => kt q p e s m args below meth c H locs ls C hW hF hl) (fun q => kf q p e s m args below meth c H locs ls C hW hF hl)
theorem k_icmp_ge {n x0 y0 : Nat} {o : Int} {x y : Int32} (hf : md_f M pc = some (.if_icmp .ge o, 3, n, x0, y0)) (kt : y ≤ x → Ok g M R Z kc ks h x0 L st) (kf : ¬ (y ≤ x) → Ok g M R Z kc ks h n L st) : Ok g M R Z kc ks h pc L (.int y :: .int x :: st) := by
  intro p e s m args below meth c H locs ls C hW hF hl
  obtain ⟨hd, hn, ho⟩ := md_dec C.2.2.2.2.2.2.2.2.2.2 hf
  subst hn
  exact lv_icmp_ge C.1 C.2.1 hd (ho _ rfl) (fun q => kt q p e s m args below meth c H locs ls C hW hF hl) (fun q => kf q p e s m args below meth c H locs ls C hW hF hl)
theorem k_if_ge {n x0 y0 : Nat} {o : Int} {x : Int32} (hf : md_f M pc = some (.ifCond .ge o, 3, n, x0, y0)) (kt : 0 ≤ x → Ok g M R Z kc ks h x0 L st) (kf : ¬ (0 ≤ x) → Ok g M R Z kc ks h n L st) : Ok g M R Z kc ks h pc L (.int x :: st) := by
  intro p e s m args below meth c H locs ls C hW hF hl
  obtain ⟨hd, hn, ho⟩ := md_dec C.2.2.2.2.2.2.2.2.2.2 hf
  subst hn
  exact lv_if_ge C.1 C.2.1 hd (ho _ rfl) (fun q => kt q p e s m args below meth c H locs ls C hW hF hl) (fun q => kf q p e s m args below meth c H locs ls C hW hF hl)
theorem k_icmp_gt {n x0 y0 : Nat} {o : Int} {x y : Int32} (hf : md_f M pc = some (.if_icmp .gt o, 3, n, x0, y0)) (kt : y < x → Ok g M R Z kc ks h x0 L st) (kf : ¬ (y < x) → Ok g M R Z kc ks h n L st) : Ok g M R Z kc ks h pc L (.int y :: .int x :: st) := by
  intro p e s m args below meth c H locs ls C hW hF hl
  obtain ⟨hd, hn, ho⟩ := md_dec C.2.2.2.2.2.2.2.2.2.2 hf
  subst hn
  exact lv_icmp_gt C.1 C.2.1 hd (ho _ rfl) (fun q => kt q p e s m args below meth c H locs ls C hW hF hl) (fun q => kf q p e s m args below meth c H locs ls C hW hF hl)
theorem k_if_gt {n x0 y0 : Nat} {o : Int} {x : Int32} (hf : md_f M pc = some (.ifCond .gt o, 3, n, x0, y0)) (kt : 0 < x → Ok g M R Z kc ks h x0 L st) (kf : ¬ (0 < x) → Ok g M R Z kc ks h n L st) : Ok g M R Z kc ks h pc L (.int x :: st) := by
  intro p e s m args below meth c H locs ls C hW hF hl
  obtain ⟨hd, hn, ho⟩ := md_dec C.2.2.2.2.2.2.2.2.2.2 hf
  subst hn
  exact lv_if_gt C.1 C.2.1 hd (ho _ rfl) (fun q => kt q p e s m args below meth c H locs ls C hW hF hl) (fun q => kf q p e s m args below meth c H locs ls C hW hF hl)
theorem k_icmp_le {n x0 y0 : Nat} {o : Int} {x y : Int32} (hf : md_f M pc = some (.if_icmp .le o, 3, n, x0, y0)) (kt : x ≤ y → Ok g M R Z kc ks h x0 L st) (kf : ¬ (x ≤ y) → Ok g M R Z kc ks h n L st) : Ok g M R Z kc ks h pc L (.int y :: .int x :: st) := by
  intro p e s m args below meth c H locs ls C hW hF hl
  obtain ⟨hd, hn, ho⟩ := md_dec C.2.2.2.2.2.2.2.2.2.2 hf
  subst hn
  exact lv_icmp_le C.1 C.2.1 hd (ho _ rfl) (fun q => kt q p e s m args below meth c H locs ls C hW hF hl) (fun q => kf q p e s m args below meth c H locs ls C hW hF hl)
theorem k_if_le {n x0 y0 : Nat} {o : Int} {x : Int32} (hf : md_f M pc = some (.ifCond .le o, 3, n, x0, y0)) (kt : x ≤ 0 → Ok g M R Z kc ks h x0 L st) (kf : ¬ (x ≤ 0) → Ok g M R Z kc ks h n L st) : Ok g M R Z kc ks h pc L (.int x :: st) := by
  intro p e s m args below meth c H locs ls C hW hF hl
  obtain ⟨hd, hn, ho⟩ := md_dec C.2.2.2.2.2.2.2.2.2.2 hf
  subst hn
  exact lv_if_le C.1 C.2.1 hd (ho _ rfl) (fun q => kt q p e s m args below meth c H locs ls C hW hF hl) (fun q => kf q p e s m args below meth c H locs ls C hW hF hl)
theorem k_goto {n x0 y0 : Nat} {o : Int} (hf : md_f M pc = some (.goto o, 3, n, x0, y0)) (k : Ok g M R Z kc ks h x0 L st) : Ok g M R Z kc ks h pc L st := by
  intro p e s m args below meth c H locs ls C hW hF hl
  obtain ⟨hd, hn, ho⟩ := md_dec C.2.2.2.2.2.2.2.2.2.2 hf
  subst hn
  exact lv_goto C.1 C.2.1 hd (ho _ rfl) (k p e s m args below meth c H locs ls C hW hF hl)
end ROWS
end
section
/-! fields, arrays, new cells, answers, calls -/
def isO (g : Gx) (h : Hp) (a c : Nat) : Prop := gx_B g ≤ a ∧ a < hp_n h ∧ hp_k h a = .inl c
def isA (g : Gx) (h : Hp) (a t len : Nat) : Prop := gx_B g ≤ a ∧ a < hp_n h ∧ hp_k h a = .inr t ∧ hp_l h a = len
theorem Wd_O {g : Gx} {h : Hp} {H : Heap} {a c : Nat} (x : Wd g h H) (o : isO g h a c) : ∃ r : vw_C, sg_cl[c]? = some r ∧ t_OB a (g.2.1 c) r.2.2 (g.2.2.1 c) H (fun k => hp_fv h (sg_ft c k) a k) := by
  have y := x.2.2.2 a o.1 o.2.1
  unfold hp_at at y
  rw [o.2.2] at y
  exact y
theorem Wd_A {g : Gx} {h : Hp} {H : Heap} {a t len : Nat} (x : Wd g h H) (o : isA g h a t len) : H[a]? = some (arrV (g.2.2.2.1 t) len (fun j => hp_fv h (sg_at t) a j)) := by
  have y := x.2.2.2 a o.1 o.2.1
  unfold hp_at at y
  rw [o.2.2.1, o.2.2.2] at y
  exact y
def sg_fin (ci k : Nat) : Bool := match sg_cl[ci]? with
  | some r => (r.2.1 k).2.2.2
  | none => false
def sg_T (ci k : Nat) : String × String × String × Bool := match sg_cl[ci]? with
  | some r => r.2.1 k
  | none => ("", "", "", false)
def sg_C (ci : Nat) : String := match sg_cl[ci]? with
  | some r => r.1
  | none => ""
def sg_N (ci : Nat) : Nat := match sg_cl[ci]? with
  | some r => r.2.2
  | none => 0
section ROWS2
variable {g : Gx} {M : Md} {R : Room} {Z : Zx} {kc ks : Nat} {h : Hp} {pc : Nat} {L : List (Option Value)} {st : List Value}
theorem k_get {n idx ci k a : Nat} (hf : md_f M pc = some (.getfield idx, 3, n, ci, k)) (ho : isO g h a ci) (kk : Ok g M R Z kc ks h n L (hp_fv h (sg_ft ci k) a k :: st)) : Ok g M R Z kc ks h pc L (.ref a :: st) := by
  intro p e s m args below meth c H locs ls C hW hF hl
  obtain ⟨hd, hn, -⟩ := md_dec C.2.2.2.2.2.2.2.2.2.2 hf
  subst hn
  obtain ⟨r, hr, cell, q1, q2, q3, q4⟩ := Wd_O hW ho
  obtain ⟨hin, hty, hnm⟩ := sg_cl_ok ci r hr
  obtain ⟨hS, hfc, kC, hkC, hkind⟩ := C.2.2.2.2.2.2.2.1.1.1 ci r hr
  obtain ⟨r', hr', hkN, hlk⟩ := md_get C.2.2.2.2.2.2.2.2.2.2 hf
  cases (Option.some.inj (hr.symm.trans hr'))
  obtain ⟨cf, kf, fi, f, hi, hsl⟩ := hS k hkN
  have hst := (u_facts hfc hkC (u_lays C.2.2.2.2.2.1 hin hkN) hi).1
  have hv : cell.slots[f.slot]? = some (hp_fv h (sg_ft ci k) a k) := by rw [hsl]; exact q4 k hkN
  rcases hlk with hlk | hlk
  · exact W.getf C.1 C.2.1 C.2.2.2.2.1 (C.2.2.2.2.2.1 _ hlk) hi hst q1 (by rw [q3]; exact fun z => by cases z) hv rfl rfl hd (kk p e s m args below meth c H locs ls C hW hF hl)
  · exact va_Wgetf C.1 C.2.1 C.2.2.2.2.1 (va_Nw.use rfl (C.2.2.2.2.2.2.2.1.2.1 _ hlk)) hi hst q1 (by rw [q3]; exact fun z => by cases z) hv rfl rfl hd (kk p e s m args below meth c H locs ls C hW hF hl)
theorem k_getI {n idx ci k a : Nat} (hf : md_f M pc = some (.getfield idx, 3, n, ci, k)) (ht : ty_I (sg_ft ci k) = true) (ho : isO g h a ci) (kk : Ok g M R Z kc ks h n L (.int (hp_i h a k) :: st)) : Ok g M R Z kc ks h pc L (.ref a :: st) :=
  k_get hf ho (by rw [hp_fv_I ht]; exact kk)
theorem k_getL {n idx ci k a : Nat} (hf : md_f M pc = some (.getfield idx, 3, n, ci, k)) (ht : sg_ft ci k = .long) (ho : isO g h a ci) (kk : Ok g M R Z kc ks h n L (.long (hp_j h a k) :: st)) : Ok g M R Z kc ks h pc L (.ref a :: st) :=
  k_get hf ho (by rw [ht]; exact kk)
theorem k_getR {n idx ci k a q : Nat} (hf : md_f M pc = some (.getfield idx, 3, n, ci, k)) (ht : ty_R (sg_ft ci k) = true) (ho : isO g h a ci) (hq : hp_r h a k = some q) (kk : Ok g M R Z kc ks h n L (.ref q :: st)) : Ok g M R Z kc ks h pc L (.ref a :: st) :=
  k_get hf ho (by rw [hp_fv_R ht, hq]; exact kk)
set_option maxHeartbeats 1000000 in
theorem k_put {n idx ci k a : Nat} {v : Value} {h1 : Hp} (hf : md_f M pc = some (.putfield idx, 3, n, ci, k)) (hfin : sg_fin ci k = false) (ho : isO g h a ci) (hna : narrow (sg_ft ci k) v = v) (hfit : fits (sg_ft ci k) v = true)
    (en : hp_n h1 = hp_n h) (ek : hp_k h1 = hp_k h) (el : hp_l h1 = hp_l h) (eo : ∀ q, q ≠ a → ∀ ty j, hp_fv h1 ty q j = hp_fv h ty q j) (ea : ∀ j, updV (fun k => hp_fv h (sg_ft ci k) a k) k v j = hp_fv h1 (sg_ft ci j) a j)
    (kk : Ok g M R Z kc ks h1 n L st) : Ok g M R Z kc ks h pc L (v :: .ref a :: st) := by
  intro p e s m args below meth c H locs ls C hW hF hl
  obtain ⟨hd, hn, -⟩ := md_dec C.2.2.2.2.2.2.2.2.2.2 hf
  subst hn
  obtain ⟨r, hr, cell, q1, q2, q3, q4⟩ := Wd_O hW ho
  obtain ⟨hin, hty, hnm⟩ := sg_cl_ok ci r hr
  have hap := va_apart (own := r.1) C.2.2.2.2.2.1 hin (sg_ft ci) hty hnm C.2.2.2.2.2.2.2.1.1 hr
  obtain ⟨hS, hfc, kC, hkC, hkind⟩ := C.2.2.2.2.2.2.2.1.1.1 ci r hr
  unfold sg_fin at hfin
  rw [hr] at hfin
  simp only at hfin
  obtain ⟨r', hr', hkN, hlk⟩ := md_put C.2.2.2.2.2.2.2.2.2.2 hf
  cases (Option.some.inj (hr.symm.trans hr'))
  obtain ⟨cf, kf, fi, f, hi, hsl⟩ := hS k hkN
  have hst := (u_facts hfc hkC (u_lays C.2.2.2.2.2.1 hin hkN) hi).1
  have hlay := C.2.2.2.2.2.1 _ (hin _ (u_in_lay hkN))
  unfold u_lay at hlay
  rw [if_neg (by rw [hfin]; decide)] at hlay
  have h6 := u_store hfc hkC hkind hlay hi (hty k hkN) hna hfit
  have fin : ∀ H1 : Heap, H1[a]? = some (cell.setSlot f.slot v) → H1.size = H.size → (∀ q, q ≠ a → H1[q]? = H[q]?) → W p (gx_l g) e R s m args below meth c H1 (locs ++ [⟨a, f.slot⟩]) kc ks (Z below args s) (F0 m (pc + 3) ls st) := by
    intro H1 e1 e2 e3
    rw [hsl] at e1
    refine kk p e s m args below meth c H1 _ ls C (Wd_set hW ho.1 e2 en e3 ?_ ek el eo) (fun q hq => ?_) hl
    · unfold hp_at
      rw [ek, ho.2.2]
      exact ⟨r, hr, t_OB.to (V := updV (fun k => hp_fv h (sg_ft ci k) a k) k v) ⟨_, e1, q2, q3, t_set q4 hap hkN v⟩ (fun j _ => ea j)⟩
    · rcases List.mem_append.mp hq with z | z
      · exact hF q z
      · rw [List.mem_singleton.mp z]; exact ho.1
  rcases hlk with hlk | hlk
  · exact W.putK C.1 C.2.1 (f := f) ⟨C.2.2.2.2.1, C.2.2.2.2.2.1 _ hlk, ⟨_, _, _, hi⟩, hst⟩ (by rw [q2]; exact h6) q1 q3 (by rw [hsl]; exact k2_hasslot (q4 k hkN)) rfl rfl hd fin
  · exact va_WputK C.1 C.2.1 (f := f) C.2.2.2.2.1 (va_Nw.use rfl (C.2.2.2.2.2.2.2.1.2.1 _ hlk)) hi hst (by rw [q2]; exact h6) q1 q3 (by rw [hsl]; exact k2_hasslot (q4 k hkN)) rfl rfl hd fin
set_option maxHeartbeats 1000000 in
theorem k_putF {n idx ci k a : Nat} {v : Value} {h1 : Hp} (hf : md_f M pc = some (.putfield idx, 3, n, ci, k)) (hlk : Cond.fieldLink (md_y M).cls idx (sg_T ci k).1 (sg_T ci k).2.1 (sg_T ci k).2.2.1 ∈ sg_tbl) (hfin : sg_fin ci k = true) (hini : (md_y M).name = "<init>") (hdecl : (sg_T ci k).1 = (md_y M).cls) (ho : isO g h a ci) (hna : narrow (sg_ft ci k) v = v) (hfit : fits (sg_ft ci k) v = true)
    (en : hp_n h1 = hp_n h) (ek : hp_k h1 = hp_k h) (el : hp_l h1 = hp_l h) (eo : ∀ q, q ≠ a → ∀ ty j, hp_fv h1 ty q j = hp_fv h ty q j) (ea : ∀ j, updV (fun k => hp_fv h (sg_ft ci k) a k) k v j = hp_fv h1 (sg_ft ci j) a j)
    (kk : Ok g M R Z kc ks h1 n L st) : Ok g M R Z kc ks h pc L (v :: .ref a :: st) := by
  intro p e s m args below meth c H locs ls C hW hF hl
  obtain ⟨hd, hn, -⟩ := md_dec C.2.2.2.2.2.2.2.2.2.2 hf
  subst hn
  obtain ⟨r, hr, cell, q1, q2, q3, q4⟩ := Wd_O hW ho
  obtain ⟨hin, hty, hnm⟩ := sg_cl_ok ci r hr
  have hap := va_apart (own := r.1) C.2.2.2.2.2.1 hin (sg_ft ci) hty hnm C.2.2.2.2.2.2.2.1.1 hr
  obtain ⟨hS, hfc, kC, hkC, hkind⟩ := C.2.2.2.2.2.2.2.1.1.1 ci r hr
  unfold sg_fin at hfin
  unfold sg_T at hlk hdecl
  rw [hr] at hfin hlk hdecl
  simp only at hfin hlk hdecl
  obtain ⟨r', hr', hkN, -⟩ := md_put C.2.2.2.2.2.2.2.2.2.2 hf
  cases (Option.some.inj (hr.symm.trans hr'))
  obtain ⟨cf, kf, fi, f, hi, hsl⟩ := hS k hkN
  have hst := (u_facts hfc hkC (u_lays C.2.2.2.2.2.1 hin hkN) hi).1
  have hlay := C.2.2.2.2.2.1 _ (hin _ (u_in_lay hkN))
  unfold u_lay at hlay
  rw [if_pos hfin] at hlay
  have hcf : m.cls = cf := by
    obtain ⟨_, _, c', _, _, _, -, -, hf', -, -, -, hown2, -⟩ := Cond.laysFinal_spec hlay
    have e1 : c' = cf := by have := hi.symm.trans hf'; simp at this; exact this.1.symm
    rw [hdecl] at hown2
    rw [← e1]; exact Option.some.inj (C.2.2.2.2.1.symm.trans hown2)
  have h6 := u_fits hfc hkC hkind (Or.inr hlay) hi (hty k hkN) hna hfit
  have fin : ∀ H1 : Heap, H1[a]? = some (cell.setSlot f.slot v) → H1.size = H.size → (∀ q, q ≠ a → H1[q]? = H[q]?) → W p (gx_l g) e R s m args below meth c H1 (locs ++ [⟨a, f.slot⟩]) kc ks (Z below args s) (F0 m (pc + 3) ls st) := by
    intro H1 e1 e2 e3
    rw [hsl] at e1
    refine kk p e s m args below meth c H1 _ ls C (Wd_set hW ho.1 e2 en e3 ?_ ek el eo) (fun q hq => ?_) hl
    · unfold hp_at
      rw [ek, ho.2.2]
      exact ⟨r, hr, t_OB.to (V := updV (fun k => hp_fv h (sg_ft ci k) a k) k v) ⟨_, e1, q2, q3, t_set q4 hap hkN v⟩ (fun j _ => ea j)⟩
    · rcases List.mem_append.mp hq with z | z
      · exact hF q z
      · rw [List.mem_singleton.mp z]; exact ho.1
  exact W.putFinK C.1 C.2.1 C.2.2.2.2.1 (C.2.2.2.2.2.1 _ hlk) hi hst hcf (C.2.2.2.2.2.2.2.2.1.trans hini) (by rw [q2]; exact h6) q1 q3 (by rw [hsl]; exact k2_hasslot (q4 k hkN)) rfl rfl hd fin
theorem ea_I {ci k a : Nat} {x : Int32} (ht : sg_ft ci k = .int) : ∀ j, updV (fun k => hp_fv h (sg_ft ci k) a k) k (.int x) j = hp_fv (hp_ui h a k x) (sg_ft ci j) a j := by
  intro j
  by_cases e : j = k
  · subst e
    simp only [updV, if_true]
    exact (by rw [ht]; show _ = Value.int (up2 _ a j _ a j); rw [up2_s])
  · simp only [updV, if_neg e]
    exact (hp_fv_ui (Or.inr e)).symm
theorem k_putI {n idx ci k a : Nat} {x : Int32} (hf : md_f M pc = some (.putfield idx, 3, n, ci, k)) (ht : sg_ft ci k = .int) (hfin : sg_fin ci k = false) (ho : isO g h a ci) (kk : Ok g M R Z kc ks (hp_ui h a k x) n L st) : Ok g M R Z kc ks h pc L (.int x :: .ref a :: st) :=
  k_put (h1 := hp_ui h a k x) hf hfin ho (by rw [ht]; rfl) (by rw [ht]; rfl) rfl rfl rfl (fun q hq ty j => hp_fv_ui (Or.inl hq)) (ea_I ht) kk
theorem k_putFI {n idx ci k a : Nat} {x : Int32} (hf : md_f M pc = some (.putfield idx, 3, n, ci, k)) (ht : sg_ft ci k = .int) (hlk : Cond.fieldLink (md_y M).cls idx (sg_T ci k).1 (sg_T ci k).2.1 (sg_T ci k).2.2.1 ∈ sg_tbl) (hfin : sg_fin ci k = true) (hini : (md_y M).name = "<init>") (hdecl : (sg_T ci k).1 = (md_y M).cls) (ho : isO g h a ci) (kk : Ok g M R Z kc ks (hp_ui h a k x) n L st) : Ok g M R Z kc ks h pc L (.int x :: .ref a :: st) :=
  k_putF (h1 := hp_ui h a k x) hf hlk hfin hini hdecl ho (by rw [ht]; rfl) (by rw [ht]; rfl) rfl rfl rfl (fun q hq ty j => hp_fv_ui (Or.inl hq)) (ea_I ht) kk
theorem ea_L {ci k a : Nat} {x : Int64} (ht : sg_ft ci k = .long) : ∀ j, updV (fun k => hp_fv h (sg_ft ci k) a k) k (.long x) j = hp_fv (hp_uj h a k x) (sg_ft ci j) a j := by
  intro j
  by_cases e : j = k
  · subst e
    simp only [updV, if_true]
    exact (by rw [ht]; show _ = Value.long (up2 _ a j _ a j); rw [up2_s])
  · simp only [updV, if_neg e]
    exact (hp_fv_uj (Or.inr e)).symm
theorem k_putL {n idx ci k a : Nat} {x : Int64} (hf : md_f M pc = some (.putfield idx, 3, n, ci, k)) (ht : sg_ft ci k = .long) (hfin : sg_fin ci k = false) (ho : isO g h a ci) (kk : Ok g M R Z kc ks (hp_uj h a k x) n L st) : Ok g M R Z kc ks h pc L (.long x :: .ref a :: st) :=
  k_put (h1 := hp_uj h a k x) hf hfin ho (by rw [ht]; rfl) (by rw [ht]; rfl) rfl rfl rfl (fun q hq ty j => hp_fv_uj (Or.inl hq)) (ea_L ht) kk
theorem k_putFL {n idx ci k a : Nat} {x : Int64} (hf : md_f M pc = some (.putfield idx, 3, n, ci, k)) (ht : sg_ft ci k = .long) (hlk : Cond.fieldLink (md_y M).cls idx (sg_T ci k).1 (sg_T ci k).2.1 (sg_T ci k).2.2.1 ∈ sg_tbl) (hfin : sg_fin ci k = true) (hini : (md_y M).name = "<init>") (hdecl : (sg_T ci k).1 = (md_y M).cls) (ho : isO g h a ci) (kk : Ok g M R Z kc ks (hp_uj h a k x) n L st) : Ok g M R Z kc ks h pc L (.long x :: .ref a :: st) :=
  k_putF (h1 := hp_uj h a k x) hf hlk hfin hini hdecl ho (by rw [ht]; rfl) (by rw [ht]; rfl) rfl rfl rfl (fun q hq ty j => hp_fv_uj (Or.inl hq)) (ea_L ht) kk
theorem ea_R {ci k a : Nat} {x : Nat} (ht : ty_R (sg_ft ci k) = true) : ∀ j, updV (fun k => hp_fv h (sg_ft ci k) a k) k (.ref x) j = hp_fv (hp_ur h a k (some x)) (sg_ft ci j) a j := by
  intro j
  by_cases e : j = k
  · subst e
    simp only [updV, if_true]
    exact (by rw [hp_fv_R ht]; show _ = va_rf (up2 _ a j _ a j); rw [up2_s]; rfl)
  · simp only [updV, if_neg e]
    exact (hp_fv_ur (Or.inr e)).symm
theorem k_putR {n idx ci k a : Nat} {x : Nat} (hf : md_f M pc = some (.putfield idx, 3, n, ci, k)) (ht : ty_R (sg_ft ci k) = true) (hfin : sg_fin ci k = false) (ho : isO g h a ci) (kk : Ok g M R Z kc ks (hp_ur h a k (some x)) n L st) : Ok g M R Z kc ks h pc L (.ref x :: .ref a :: st) :=
  k_put (h1 := hp_ur h a k (some x)) hf hfin ho (by cases hq : sg_ft ci k <;> rw [hq] at ht <;> first | rfl | cases ht) (by cases hq : sg_ft ci k <;> rw [hq] at ht <;> first | rfl | cases ht) rfl rfl rfl (fun q hq ty j => hp_fv_ur (Or.inl hq)) (ea_R ht) kk
theorem k_putFR {n idx ci k a : Nat} {x : Nat} (hf : md_f M pc = some (.putfield idx, 3, n, ci, k)) (ht : ty_R (sg_ft ci k) = true) (hlk : Cond.fieldLink (md_y M).cls idx (sg_T ci k).1 (sg_T ci k).2.1 (sg_T ci k).2.2.1 ∈ sg_tbl) (hfin : sg_fin ci k = true) (hini : (md_y M).name = "<init>") (hdecl : (sg_T ci k).1 = (md_y M).cls) (ho : isO g h a ci) (kk : Ok g M R Z kc ks (hp_ur h a k (some x)) n L st) : Ok g M R Z kc ks h pc L (.ref x :: .ref a :: st) :=
  k_putF (h1 := hp_ur h a k (some x)) hf hlk hfin hini hdecl ho (by cases hq : sg_ft ci k <;> rw [hq] at ht <;> first | rfl | cases ht) (by cases hq : sg_ft ci k <;> rw [hq] at ht <;> first | rfl | cases ht) rfl rfl rfl (fun q hq ty j => hp_fv_ur (Or.inl hq)) (ea_R ht) kk
theorem ix_in {i : Int32} {j len : Nat} (e : i = nI j) (hj : j < len) (hl : len < 2147483648) : ¬ (i < 0 ∨ len ≤ i.toNatClampNeg) := by
  subst e; exact nI_in hj hl
theorem ix_cl {i : Int32} {j len : Nat} (e : i = nI j) (hj : j < len) (hl : len < 2147483648) : i.toNatClampNeg = j := by
  subst e; exact nI_clamp (Nat.lt_trans hj hl)
theorem k_iald {n x0 y0 t a len j : Nat} {i : Int32} (hf : md_f M pc = some (.iaload, 1, n, x0, y0)) (ho : isA g h a t len) (ht : sg_at t = .int) (hta : t < sg_na) (hi : i = nI j) (hj : j < len) (hlen : len < 2147483648) (kk : Ok g M R Z kc ks h n L (.int (hp_i h a j) :: st)) : Ok g M R Z kc ks h pc L (.int i :: .ref a :: st) := by
  intro p e s m args below meth c H locs ls C hW hF hl
  obtain ⟨hd, hn, -⟩ := md_dec C.2.2.2.2.2.2.2.2.2.2 hf
  subst hn
  have hA := Wd_A hW ho
  have hty := (C.2.2.2.2.2.2.2.1.1.2 t _ (tb_get hta)).1 len (fun j => hp_fv h (sg_at t) a j)
  have hc := ix_cl hi hj hlen
  refine W.iald (v := .int (hp_i h a j)) C.1 C.2.1 hA (by rw [ht] at hty ⊢; exact hty) (fun q => by cases q) (by show ¬ (i < 0 ∨ (arrV _ _ _).slots.size ≤ _); rw [arrV_size]; exact ix_in hi hj hlen) (by rw [hc, arrV_read _ _ hj, ht]; rfl) rfl rfl hd (kk p e s m args below meth c H locs ls C hW hF hl)
theorem k_zald {n x0 y0 t a len j : Nat} {i : Int32} (hf : md_f M pc = some (.baload, 1, n, x0, y0)) (ho : isA g h a t len) (ht : sg_at t = .boolean) (hta : t < sg_na) (hi : i = nI j) (hj : j < len) (hlen : len < 2147483648) (kk : Ok g M R Z kc ks h n L (.int (hp_i h a j) :: st)) : Ok g M R Z kc ks h pc L (.int i :: .ref a :: st) := by
  intro p e s m args below meth c H locs ls C hW hF hl
  obtain ⟨hd, hn, -⟩ := md_dec C.2.2.2.2.2.2.2.2.2.2 hf
  subst hn
  have hA := Wd_A hW ho
  have hty := (C.2.2.2.2.2.2.2.1.1.2 t _ (tb_get hta)).1 len (fun j => hp_fv h (sg_at t) a j)
  have hc := ix_cl hi hj hlen
  refine W.zald (v := .int (hp_i h a j)) C.1 C.2.1 hA (by rw [ht] at hty ⊢; exact hty) (fun q => by cases q) (by show ¬ (i < 0 ∨ (arrV _ _ _).slots.size ≤ _); rw [arrV_size]; exact ix_in hi hj hlen) (by rw [hc, arrV_read _ _ hj, ht]; rfl) rfl rfl hd (kk p e s m args below meth c H locs ls C hW hF hl)
theorem k_bald {n x0 y0 t a len j : Nat} {i : Int32} (hf : md_f M pc = some (.baload, 1, n, x0, y0)) (ho : isA g h a t len) (ht : sg_at t = .byte) (hta : t < sg_na) (hi : i = nI j) (hj : j < len) (hlen : len < 2147483648) (kk : Ok g M R Z kc ks h n L (.int (hp_i h a j) :: st)) : Ok g M R Z kc ks h pc L (.int i :: .ref a :: st) := by
  intro p e s m args below meth c H locs ls C hW hF hl
  obtain ⟨hd, hn, -⟩ := md_dec C.2.2.2.2.2.2.2.2.2.2 hf
  subst hn
  have hA := Wd_A hW ho
  have hty := (C.2.2.2.2.2.2.2.1.1.2 t _ (tb_get hta)).1 len (fun j => hp_fv h (sg_at t) a j)
  have hc := ix_cl hi hj hlen
  refine W.bald (v := .int (hp_i h a j)) C.1 C.2.1 hA (by rw [ht] at hty ⊢; exact hty) (fun q => by cases q) (by show ¬ (i < 0 ∨ (arrV _ _ _).slots.size ≤ _); rw [arrV_size]; exact ix_in hi hj hlen) (by rw [hc, arrV_read _ _ hj, ht]; rfl) rfl rfl hd (kk p e s m args below meth c H locs ls C hW hF hl)
theorem k_lald {n x0 y0 t a len j : Nat} {i : Int32} (hf : md_f M pc = some (.laload, 1, n, x0, y0)) (ho : isA g h a t len) (ht : sg_at t = .long) (hta : t < sg_na) (hi : i = nI j) (hj : j < len) (hlen : len < 2147483648) (kk : Ok g M R Z kc ks h n L (.long (hp_j h a j) :: st)) : Ok g M R Z kc ks h pc L (.int i :: .ref a :: st) := by
  intro p e s m args below meth c H locs ls C hW hF hl
  obtain ⟨hd, hn, -⟩ := md_dec C.2.2.2.2.2.2.2.2.2.2 hf
  subst hn
  have hA := Wd_A hW ho
  have hty := (C.2.2.2.2.2.2.2.1.1.2 t _ (tb_get hta)).1 len (fun j => hp_fv h (sg_at t) a j)
  have hc := ix_cl hi hj hlen
  refine W.lald (v := .long (hp_j h a j)) C.1 C.2.1 hA (by rw [ht] at hty ⊢; exact hty) (fun q => by cases q) (by show ¬ (i < 0 ∨ (arrV _ _ _).slots.size ≤ _); rw [arrV_size]; exact ix_in hi hj hlen) (by rw [hc, arrV_read _ _ hj, ht]; rfl) rfl rfl hd (kk p e s m args below meth c H locs ls C hW hF hl)
theorem k_aald {n x0 y0 t a len j q : Nat} {i : Int32} (hf : md_f M pc = some (.aaload, 1, n, x0, y0)) (ho : isA g h a t len) (ht : ty_R (sg_at t) = true) (hta : t < sg_na) (hi : i = nI j) (hj : j < len) (hlen : len < 2147483648) (hq : hp_r h a j = some q) (kk : Ok g M R Z kc ks h n L (.ref q :: st)) : Ok g M R Z kc ks h pc L (.int i :: .ref a :: st) := by
  intro p e s m args below meth c H locs ls C hW hF hl
  obtain ⟨hd, hn, -⟩ := md_dec C.2.2.2.2.2.2.2.2.2.2 hf
  subst hn
  have hA := Wd_A hW ho
  have hty := (C.2.2.2.2.2.2.2.1.1.2 t _ (tb_get hta)).1 len (fun j => hp_fv h (sg_at t) a j)
  have hc := ix_cl hi hj hlen
  refine W.aald (v := .ref q) C.1 C.2.1 hA hty (by cases hz : sg_at t <;> rw [hz] at ht <;> first | rfl | cases ht) (fun q => by cases q) (by show ¬ (i < 0 ∨ (arrV _ _ _).slots.size ≤ _); rw [arrV_size]; exact ix_in hi hj hlen) (by rw [hc, arrV_read _ _ hj, hp_fv_R ht, hq]; rfl) rfl rfl hd (kk p e s m args below meth c H locs ls C hW hF hl)
theorem k_alen {n x0 y0 t a len : Nat} (hf : md_f M pc = some (.arraylength, 1, n, x0, y0)) (ho : isA g h a t len) (hta : t < sg_na) (kk : Ok g M R Z kc ks h n L (.int (nI len) :: st)) : Ok g M R Z kc ks h pc L (.ref a :: st) := by
  intro p e s m args below meth c H locs ls C hW hF hl
  obtain ⟨hd, hn, -⟩ := md_dec C.2.2.2.2.2.2.2.2.2.2 hf
  subst hn
  have hA := Wd_A hW ho
  have hty := (C.2.2.2.2.2.2.2.1.1.2 t _ (tb_get hta)).1 len (fun j => hp_fv h (sg_at t) a j)
  exact W.alen (n := Int32.ofNat len) C.1 C.2.1 hA hty (by rw [arrV_size] <;> rfl) rfl rfl hd (kk p e s m args below meth c H locs ls C hW hF hl)
/-- what an array's place holds behind a store -/
theorem Wd_ast {H H1 : Heap} {t a len j : Nat} {v : Value} {h1 : Hp} (hW : Wd g h H) (ho : isA g h a t len) (e1 : H1[a]? = some ((arrV (g.2.2.2.1 t) len (fun j => hp_fv h (sg_at t) a j)).setSlot j v)) (e2 : H1.size = H.size) (e3 : ∀ q, q ≠ a → H1[q]? = H[q]?)
    (en : hp_n h1 = hp_n h) (ek : hp_k h1 = hp_k h) (el : hp_l h1 = hp_l h) (eo : ∀ q, q ≠ a → ∀ ty j, hp_fv h1 ty q j = hp_fv h ty q j) (ea : ∀ i, updV (fun k => hp_fv h (sg_at t) a k) j v i = hp_fv h1 (sg_at t) a i) : Wd g h1 H1 := by
  refine Wd_set hW ho.1 e2 en e3 ?_ ek el eo
  unfold hp_at
  rw [ek, el, ho.2.2.1, ho.2.2.2]
  show H1[a]? = _
  rw [e1, arrV_store]
  congr 2
  funext i
  exact ea i
theorem k_iast {n x0 y0 t a len j : Nat} {i : Int32} {x : Int32} (hf : md_f M pc = some (.iastore, 1, n, x0, y0)) (ho : isA g h a t len) (ht : sg_at t = .int) (hta : t < sg_na) (hi : i = nI j) (hj : j < len) (hlen : len < 2147483648)  (kk : Ok g M R Z kc ks (hp_ui h a j x) n L st) : Ok g M R Z kc ks h pc L (.int x :: .int i :: .ref a :: st) := by
  intro p e s m args below meth c H locs ls C hW hF hl
  obtain ⟨hd, hn, -⟩ := md_dec C.2.2.2.2.2.2.2.2.2.2 hf
  subst hn
  have hA := Wd_A hW ho
  have hty := (C.2.2.2.2.2.2.2.1.1.2 t _ (tb_get hta)).1 len (fun j => hp_fv h (sg_at t) a j)
  have hc := ix_cl hi hj hlen
  refine W.iast C.1 C.2.1 hA (by rw [ht] at hty ⊢; exact hty) (fun q => by cases q) (by show ¬ (i < 0 ∨ (arrV _ _ _).slots.size ≤ _); rw [arrV_size]; exact ix_in hi hj hlen) rfl rfl hd (fun H1 e1 e2 e3 => ?_)
  rw [hc] at e1 ⊢
  skip
  refine kk p e s m args below meth c H1 _ ls C (Wd_ast hW ho e1 e2 e3 rfl rfl rfl (fun q hq ty j => hp_fv_ui (Or.inl hq)) (fun b => ?_)) (fun q hq => ?_) hl
  · by_cases e : b = j
    · subst e
      simp only [updV, if_true]
      rw [ht]
      show _ = Value.int (up2 _ a b _ a b)
      rw [up2_s]
    · simp only [updV, if_neg e]
      exact (hp_fv_ui (Or.inr e)).symm
  · rcases List.mem_append.mp hq with z | z
    · exact hF q z
    · rw [List.mem_singleton.mp z]; exact ho.1
theorem k_zast {n x0 y0 t a len j : Nat} {i : Int32} {x : Int32} (hf : md_f M pc = some (.bastore, 1, n, x0, y0)) (ho : isA g h a t len) (ht : sg_at t = .boolean) (hta : t < sg_na) (hi : i = nI j) (hj : j < len) (hlen : len < 2147483648) (hx : narrow .boolean (.int x) = .int x) (kk : Ok g M R Z kc ks (hp_ui h a j x) n L st) : Ok g M R Z kc ks h pc L (.int x :: .int i :: .ref a :: st) := by
  intro p e s m args below meth c H locs ls C hW hF hl
  obtain ⟨hd, hn, -⟩ := md_dec C.2.2.2.2.2.2.2.2.2.2 hf
  subst hn
  have hA := Wd_A hW ho
  have hty := (C.2.2.2.2.2.2.2.1.1.2 t _ (tb_get hta)).1 len (fun j => hp_fv h (sg_at t) a j)
  have hc := ix_cl hi hj hlen
  refine W.zast C.1 C.2.1 hA (by rw [ht] at hty ⊢; exact hty) (fun q => by cases q) (by show ¬ (i < 0 ∨ (arrV _ _ _).slots.size ≤ _); rw [arrV_size]; exact ix_in hi hj hlen) rfl rfl hd (fun H1 e1 e2 e3 => ?_)
  rw [hc] at e1 ⊢
  rw [hx] at e1
  refine kk p e s m args below meth c H1 _ ls C (Wd_ast hW ho e1 e2 e3 rfl rfl rfl (fun q hq ty j => hp_fv_ui (Or.inl hq)) (fun b => ?_)) (fun q hq => ?_) hl
  · by_cases e : b = j
    · subst e
      simp only [updV, if_true]
      rw [ht]
      show _ = Value.int (up2 _ a b _ a b)
      rw [up2_s]
    · simp only [updV, if_neg e]
      exact (hp_fv_ui (Or.inr e)).symm
  · rcases List.mem_append.mp hq with z | z
    · exact hF q z
    · rw [List.mem_singleton.mp z]; exact ho.1
theorem k_last {n x0 y0 t a len j : Nat} {i : Int32} {x : Int64} (hf : md_f M pc = some (.lastore, 1, n, x0, y0)) (ho : isA g h a t len) (ht : sg_at t = .long) (hta : t < sg_na) (hi : i = nI j) (hj : j < len) (hlen : len < 2147483648)  (kk : Ok g M R Z kc ks (hp_uj h a j x) n L st) : Ok g M R Z kc ks h pc L (.long x :: .int i :: .ref a :: st) := by
  intro p e s m args below meth c H locs ls C hW hF hl
  obtain ⟨hd, hn, -⟩ := md_dec C.2.2.2.2.2.2.2.2.2.2 hf
  subst hn
  have hA := Wd_A hW ho
  have hty := (C.2.2.2.2.2.2.2.1.1.2 t _ (tb_get hta)).1 len (fun j => hp_fv h (sg_at t) a j)
  have hc := ix_cl hi hj hlen
  refine W.last C.1 C.2.1 hA (by rw [ht] at hty ⊢; exact hty) (fun q => by cases q) (by show ¬ (i < 0 ∨ (arrV _ _ _).slots.size ≤ _); rw [arrV_size]; exact ix_in hi hj hlen) rfl rfl hd (fun H1 e1 e2 e3 => ?_)
  rw [hc] at e1 ⊢
  skip
  refine kk p e s m args below meth c H1 _ ls C (Wd_ast hW ho e1 e2 e3 rfl rfl rfl (fun q hq ty j => hp_fv_uj (Or.inl hq)) (fun b => ?_)) (fun q hq => ?_) hl
  · by_cases e : b = j
    · subst e
      simp only [updV, if_true]
      rw [ht]
      show _ = Value.long (up2 _ a b _ a b)
      rw [up2_s]
    · simp only [updV, if_neg e]
      exact (hp_fv_uj (Or.inr e)).symm
  · rcases List.mem_append.mp hq with z | z
    · exact hF q z
    · rw [List.mem_singleton.mp z]; exact ho.1
/-- a class's object into an array over that class -/
def at_ok (t ci : Nat) : Bool := match sg_cl[ci]?, sg_at t with
  | some r, .object C => decide (r.1 = C)
  | _, _ => false
theorem k_aast {n x0 y0 t a len j v ci : Nat} {i : Int32} (hf : md_f M pc = some (.aastore, 1, n, x0, y0)) (ho : isA g h a t len) (hv : isO g h v ci) (ht : at_ok t ci = true) (hta : t < sg_na) (hi : i = nI j) (hj : j < len) (hlen : len < 2147483648) (kk : Ok g M R Z kc ks (hp_ur h a j (some v)) n L st) : Ok g M R Z kc ks h pc L (.ref v :: .int i :: .ref a :: st) := by
  intro p e s m args below meth c H locs ls C hW hF hl
  obtain ⟨hd, hn, -⟩ := md_dec C.2.2.2.2.2.2.2.2.2.2 hf
  subst hn
  have hA := Wd_A hW ho
  obtain ⟨r, hr, cellV, g1, g2, g3, -⟩ := Wd_O hW hv
  have hK := C.2.2.2.2.2.2.2.1.1
  have hc := ix_cl hi hj hlen
  unfold at_ok at ht
  rw [hr] at ht
  cases hat : sg_at t with
  | object E =>
    rw [hat] at ht
    have hE : r.1 = E := of_decide_eq_true ht
    subst hE
    have hcls := (hK.1 ci r hr).2
    have hta2 := (hK.2 t _ (tb_get hta)).2
    simp only [hat] at hta2
    obtain ⟨kA, comp, k1, k2, k3, -⟩ := hta2
    have hcomp : comp = g.2.1 ci := Option.some.inj (k3.symm.trans hcls.1)
    subst hcomp
    obtain ⟨kC, hkC, -⟩ := hcls.2
    refine W.aast C.1 C.2.1 hA (fun q h => by cases h) (fun h => by cases h) k1 k2 rfl hkC ⟨by rw [hi]; exact nI_pos (Nat.lt_trans hj hlen), by show _ < (arrV _ _ _).slots.size; rw [arrV_size, hc]; exact hj⟩ g1 (fun q h => by rw [g3] at h; cases h) (by rw [g2]; exact hkC) (by rw [g2]; exact va_assign hcls) rfl rfl hd (fun H1 e1 e2 e3 => ?_)
    rw [hc] at e1 ⊢
    refine kk p e s m args below meth c H1 _ ls C (Wd_ast hW ho e1 e2 e3 rfl rfl rfl (fun q hq ty j => hp_fv_ur (Or.inl hq)) (fun b => ?_)) (fun q hq => ?_) hl
    · by_cases e : b = j
      · subst e
        simp only [updV, if_true]
        rw [hat]
        show _ = va_rf (up2 _ a b _ a b)
        rw [up2_s]; rfl
      · simp only [updV, if_neg e]
        exact (hp_fv_ur (Or.inr e)).symm
    · rcases List.mem_append.mp hq with z | z
      · exact hF q z
      · rw [List.mem_singleton.mp z]; exact ho.1
  | _ => rw [hat] at ht; cases ht
/-- a new array of numbers -/
theorem k_newa {n x0 y0 t len : Nat} {i : Int32} {aT : ArrayType} (hf : md_f M pc = some (.newarray aT, 2, n, x0, y0)) (ht : newarray.typeOf aT = sg_at t) (hD : ty_D (sg_at t) = false) (hR : ty_R (sg_at t) = false) (hta : t < sg_na) (hw : Cond.arrayClass (sg_at t) ∈ sg_tbl) (hi : i = nI len) (hlen : len < 60000000) (hc : kc + 1 ≤ R.cells) (hs : ks + len ≤ R.slots)
    (kk : Ok g M R Z (kc + 1) (ks + len) (hp_new h (.inr t) len) n L (.ref (hp_n h) :: st)) : Ok g M R Z kc ks h pc L (.int i :: st) := by
  intro p e s m args below meth c H locs ls C hW hF hl
  obtain ⟨hd, hn, -⟩ := md_dec C.2.2.2.2.2.2.2.2.2.2 hf
  subst hn
  have hK := C.2.2.2.2.2.2.2.1.1
  have hcl : i.toNatClampNeg = len := by rw [hi]; exact nI_clamp (by omega)
  refine va_newaK C.1 C.2.1 (by rw [ht]; exact C.2.2.2.2.2.1 _ hw) rfl hd rfl (by rw [hi]; exact nI_pos (by omega)) hcl ?_ hc hs hW.1 (fun H1 cA e1 z1 o1 hAr hNm => ?_)
  · have : componentBytes (newarray.typeOf aT) ≤ 8 := by cases aT <;> decide
    exact Nat.le_trans (Nat.mul_le_mul_left len this) (by omega)
  · have h2 := (hK.2 t _ (tb_get hta)).2
    have h3 : s.vm.findClass ("[" ++ (sg_at t).toString) = some (g.2.2.2.1 t) := by
      revert h2; show va_RA s (g.2.2.2.1 t) (sg_at t) → _
      cases hz : sg_at t <;> rw [hz] at hR <;> first | (cases hR; done) | exact id
    rw [ht] at hNm e1
    have h4 : cA = g.2.2.2.1 t := Option.some.inj (hNm.symm.trans h3)
    subst h4
    refine kk p e s m args below meth c H1 locs ls C (Wd_new hW (by rw [z1, hW.1]) (fun q hq => o1 q (by rw [← hW.1]; exact hq)) ?_) hF hl
    unfold hp_at
    have k1 : hp_k (hp_new h (.inr t) len) (hp_n h) = .inr t := va_up_self _ _ _
    have k2 : hp_l (hp_new h (.inr t) len) (hp_n h) = len := va_up_self _ _ _
    rw [k1, k2]
    show H1[hp_n h]? = _
    rw [e1]
    congr 2
    funext j
    exact (hp_fv_new hD).symm
/-- a new array of objects -/
theorem k_newq {n x0 y0 t len idx : Nat} {i : Int32} {E : String} (hf : md_f M pc = some (.anewarray idx, 3, n, x0, y0)) (ht : sg_at t = .object E) (hta : t < sg_na) (hw : Cond.classLink (md_y M).cls idx E ∈ sg_tbl) (hE : E ∈ sg_refs) (hi : i = nI len) (hlen : len < 60000000) (hc : kc + 1 ≤ R.cells) (hs : ks + len ≤ R.slots)
    (kk : Ok g M R Z (kc + 1) (ks + len) (hp_new h (.inr t) len) n L (.ref (hp_n h) :: st)) : Ok g M R Z kc ks h pc L (.int i :: st) := by
  intro p e s m args below meth c H locs ls C hW hF hl
  obtain ⟨hd, hn, -⟩ := md_dec C.2.2.2.2.2.2.2.2.2.2 hf
  subst hn
  have hK := C.2.2.2.2.2.2.2.1.1
  have hcl : i.toNatClampNeg = len := by rw [hi]; exact nI_clamp (by omega)
  refine W.anew C.1 C.2.1 C.2.2.2.2.1 (C.2.2.2.2.2.1 _ hw) (va_AO.use (C.2.2.2.2.2.2.2.1.2.2.1 E hE)) rfl hd rfl (by rw [hi]; exact nI_pos (by omega)) (by rw [hcl]; omega) hc (by rw [hcl]; exact hs) (fun cA kA comp f1 f2 f3 f4 => ?_)
  have h2 := (hK.2 t _ (tb_get hta)).2
  simp only [ht] at h2
  obtain ⟨kA', comp', m1, m2, m3, m4⟩ := h2
  have h4 : cA = g.2.2.2.1 t := Option.some.inj (f1.symm.trans m4)
  subst h4
  rw [hcl, hW.1]
  refine kk p e s m args below meth c _ locs ls C (Wd_new hW (by rw [Array.size_push]) (fun q hq => by rw [Array.getElem?_push, if_neg (Nat.ne_of_lt hq)]) ?_) hF hl
  unfold hp_at
  have k1 : hp_k (hp_new h (.inr t) len) (hp_n h) = .inr t := va_up_self _ _ _
  have k2 : hp_l (hp_new h (.inr t) len) (hp_n h) = len := va_up_self _ _ _
  rw [k1, k2]
  show (Array.push H _)[hp_n h]? = _
  rw [← hW.1, Array.getElem?_push_size, arrV_new]
  congr 2
  funext j
  rw [hW.1, ht]
  exact (hp_fv_new (h := h) (kd := .inr t) (len := len) (ty := .object E) (k := j) rfl).symm
theorem k_new {n y0 ci idx N : Nat} (hf : md_f M pc = some (.new idx, 3, n, ci, y0)) (w1 : Cond.classLink (md_y M).cls idx (sg_C ci) ∈ sg_tbl) (w2 : Cond.instantiable (sg_C ci) N ∈ sg_tbl) (w3 : Cond.initialized (sg_C ci) ∈ sg_tbl) (hN : sg_N ci = N) (hD : ((List.range N).all (fun k => !(ty_D (sg_ft ci k)))) = true) (hci : ci < 5) (hc : kc + 1 ≤ R.cells) (hs : ks + N ≤ R.slots)
    (kk : Ok g M R Z (kc + 1) (ks + N) (hp_new h (.inl ci) 0) n L (.ref (hp_n h) :: st)) : Ok g M R Z kc ks h pc L st := by
  intro p e s m args below meth c H locs ls C hW hF hl
  obtain ⟨hd, hn, -⟩ := md_dec C.2.2.2.2.2.2.2.2.2.2 hf
  subst hn
  have hK := C.2.2.2.2.2.2.2.1.1
  cases hr : sg_cl[ci]? with
  | none => exact absurd (List.getElem?_eq_none_iff.mp hr) (by show ¬ 5 ≤ ci; omega)
  | some r =>
    have hN2 : r.2.2 = N := by rw [← hN]; unfold sg_N; rw [hr]
    have hC2 : sg_C ci = r.1 := by unfold sg_C; rw [hr]
    rw [hC2] at w1 w2 w3
    obtain ⟨hin, hty, hnm⟩ := sg_cl_ok ci r hr
    have hKn := hK.1 ci r hr
    refine W.newcK C.1 C.2.1 C.2.2.2.2.1 (C.2.2.2.2.2.1 _ w1) (C.2.2.2.2.2.1 _ w2) (C.2.2.2.2.2.1 _ w3) rfl hd hc hs hKn.2.1 hW.1 (fun H1 kC hkC e1 z1 o1 => ?_)
    refine kk p e s m args below meth c H1 locs ls C (Wd_new hW (by rw [z1, hW.1]) (fun q hq => o1 q (by rw [← hW.1]; exact hq)) ?_) hF hl
    unfold hp_at
    have k1 : hp_k (hp_new h (.inl ci) 0) (hp_n h) = .inl ci := va_up_self _ _ _
    rw [k1]
    refine ⟨r, hr, (u_born (sg_ft ci) C.2.2.2.2.2.1 hin hKn hkC e1 hty).to (fun k hkN => ?_)⟩
    have h9 := List.all_eq_true.mp hD k (List.mem_range.mpr (by rw [← hN2]; exact hkN))
    exact (hp_fv_new (by simpa using h9)).symm
theorem k_objInit {n x0 y0 a idx : Nat} (hf : md_f M pc = some (.invokespecial idx, 3, n, x0, y0)) (hw : Cond.methodLink (md_y M).cls idx Lib.objectInit ∈ sg_tbl) (hw2 : Cond.instanceMethod Lib.objectInit ∈ sg_tbl) (hw3 : Cond.code Lib.objectInit ⟨#[0xb1]⟩ 1 none ∈ sg_tbl) (hfr : 1 ≤ R.frames) (hlo : (st.map fun v => v.category).sum + 12 ≤ R.locals) (kk : Ok g M R Z kc ks h n L st) : Ok g M R Z kc ks h pc L (.ref a :: st) := by
  intro p e s m args below meth c H locs ls C hW hF hl
  obtain ⟨hd, hn, -⟩ := md_dec C.2.2.2.2.2.2.2.2.2.2 hf
  subst hn
  refine W.objInit C.1 C.2.1 C.2.2.2.2.1 (C.2.2.2.2.2.1 _ hw) (C.2.2.2.2.2.1 _ hw2) (C.2.2.2.2.2.1 _ hw3) rfl (by rw [C.2.2.1]; exact hl.1.1) rfl hd hfr ?_ (kk p e s m args below meth c H locs ls C hW hF hl)
  show 2 * 0 + _ + 12 ≤ _
  omega
end ROWS2
section ROWS3
variable {g : Gx} {M : Md} {R : Room} {mc ms kc ks : Nat} {Q : Option Value → Hp → Prop} {h : Hp} {pc : Nat} {L : List (Option Value)} {st : List Value}
theorem k_iret {n x0 y0 : Nat} {x : Int32} (hf : md_f M pc = some (.ireturn, 1, n, x0, y0)) (hr : md_r M = some .int)  (hc : kc ≤ mc) (hs : ks ≤ ms) (hQ : Q (some (.int x)) h) : Ok g M R (Zm g mc ms Q) kc ks h pc L [.int x] := by
  intro p e s m args below meth c H locs ls C hW hF hl
  obtain ⟨hd, hn, -⟩ := md_dec C.2.2.2.2.2.2.2.2.2.2 hf
  subst hn
  refine W.widen hc hs ?_
  exact W.iret (v := x) (Qc := Qx g Q) (free := fun q => gx_B g ≤ q) C.1 C.2.1 (C.2.2.2.1.trans hr)  (fun t ht hv => ⟨_, h, rfl, hQ, by rw [ht]; exact hW, Tb_moved C.2.2.2.2.2.2.2.1 hv⟩) hF hd (hlocks := C.2.2.2.2.2.2.1)
theorem k_zret {n x0 y0 : Nat} {x : Int32} (hf : md_f M pc = some (.ireturn, 1, n, x0, y0)) (hr : md_r M = some .boolean) (hx : narrow .boolean (.int x) = .int x) (hc : kc ≤ mc) (hs : ks ≤ ms) (hQ : Q (some (.int x)) h) : Ok g M R (Zm g mc ms Q) kc ks h pc L [.int x] := by
  intro p e s m args below meth c H locs ls C hW hF hl
  obtain ⟨hd, hn, -⟩ := md_dec C.2.2.2.2.2.2.2.2.2.2 hf
  subst hn
  refine W.widen hc hs ?_
  exact W.zret (v := x) (Qc := Qx g Q) (free := fun q => gx_B g ≤ q) C.1 C.2.1 (C.2.2.2.1.trans hr) hx (fun t ht hv => ⟨_, h, rfl, hQ, by rw [ht]; exact hW, Tb_moved C.2.2.2.2.2.2.2.1 hv⟩) hF hd (hlocks := C.2.2.2.2.2.2.1)
theorem k_lret {n x0 y0 : Nat} {x : Int64} (hf : md_f M pc = some (.lreturn, 1, n, x0, y0)) (hr : md_r M = some .long)  (hc : kc ≤ mc) (hs : ks ≤ ms) (hQ : Q (some (.long x)) h) : Ok g M R (Zm g mc ms Q) kc ks h pc L [.long x] := by
  intro p e s m args below meth c H locs ls C hW hF hl
  obtain ⟨hd, hn, -⟩ := md_dec C.2.2.2.2.2.2.2.2.2.2 hf
  subst hn
  refine W.widen hc hs ?_
  exact W.lret (v := x) (Qc := Qx g Q) (free := fun q => gx_B g ≤ q) C.1 C.2.1 (C.2.2.2.1.trans hr)  (fun t ht hv => ⟨_, h, rfl, hQ, by rw [ht]; exact hW, Tb_moved C.2.2.2.2.2.2.2.1 hv⟩) hF hd (hlocks := C.2.2.2.2.2.2.1)
theorem k_vret {n x0 y0 : Nat}  (hf : md_f M pc = some (.return_, 1, n, x0, y0)) (hr : md_r M = none)  (hc : kc ≤ mc) (hs : ks ≤ ms) (hQ : Q (none) h) : Ok g M R (Zm g mc ms Q) kc ks h pc L [] := by
  intro p e s m args below meth c H locs ls C hW hF hl
  obtain ⟨hd, hn, -⟩ := md_dec C.2.2.2.2.2.2.2.2.2.2 hf
  subst hn
  refine W.widen hc hs ?_
  exact W.vret (Qc := Qx g Q) (free := fun q => gx_B g ≤ q) C.1 C.2.1 (C.2.2.2.1.trans hr)  (fun t ht hv => ⟨_, h, rfl, hQ, by rw [ht]; exact hW, Tb_moved C.2.2.2.2.2.2.2.1 hv⟩) hF hd (hlocks := C.2.2.2.2.2.2.1)
theorem k_aret {n x0 y0 x : Nat} {rt : FieldType} (hf : md_f M pc = some (.areturn, 1, n, x0, y0)) (hr : md_r M = some rt) (hrt : (∃ n, rt = .object n) ∨ ∃ t, rt = .array t) (hc : kc ≤ mc) (hs : ks ≤ ms) (hQ : Q (some (.ref x)) h) : Ok g M R (Zm g mc ms Q) kc ks h pc L [.ref x] := by
  intro p e s m args below meth c H locs ls C hW hF hl
  obtain ⟨hd, hn, -⟩ := md_dec C.2.2.2.2.2.2.2.2.2.2 hf
  subst hn
  refine W.widen hc hs ?_
  exact W.aret (v := .ref x) (Qc := Qx g Q) (free := fun q => gx_B g ≤ q) C.1 C.2.1 (C.2.2.2.1.trans hr) hrt (Or.inr ⟨x, rfl⟩) (fun t ht hv => ⟨_, h, rfl, hQ, by rw [ht]; exact hW, Tb_moved C.2.2.2.2.2.2.2.1 hv⟩) hF hd (hlocks := C.2.2.2.2.2.2.1)
end ROWS3
/-! CALLS -/
section CALLS
variable {g : Gx} {M M1 : Md} {R : Room} {Z : Zx} {kc ks : Nat} {h : Hp} {pc : Nat} {L : List (Option Value)} {st : List Value} {d mc ms : Nat}
theorem ct_blind {As : List Value} : FrameBlind (va_Pc As (fun U => Wd g h U.heap ∧ Tb g U)) := by
  intro a U f mk q
  obtain ⟨q0, q1, q2⟩ := q
  exact ⟨q0, q1, Tb_same q2 rfl⟩
/-- the room that a callee at depth d wants -/
def rm_ok (R : Room) (d maxL : Nat) : Prop := d + 1 ≤ R.frames ∧ 8 + (maxL + 11) + 48 * d ≤ R.locals
theorem rm_d {d mc ms maxL : Nat} (h : maxL ≤ 29) : rm_ok (rmd (d + 1) mc ms) d maxL := by
  refine ⟨Nat.le_refl _, ?_⟩
  show _ ≤ 48 * (d + 1)
  omega
/-- what the tables must say of a callee -/
def cl_w (M1 : Md) (n : Nat) : Prop := Cond.code (md_y M1) (md_b M1) (md_n M1) (md_r M1) ∈ sg_tbl ∧ Cond.initialized (md_y M1).cls ∈ sg_tbl ∧ ((md_y M1).cls ≠ "java/lang/invoke/MethodHandle" ∧ (md_y M1).cls ≠ "java/lang/invoke/VarHandle") ∧ (parseMethodDescriptor (md_y M1).desc).map (fun d => d.parameters.length) = some n
def cl_S (M1 : Md) (n : Nat) : Prop := cl_w M1 n ∧ Cond.static (md_y M1) ∈ sg_tbl
def cl_V (M1 : Md) (n : Nat) : Prop := cl_w M1 n ∧ Cond.instanceMethod (md_y M1) ∈ sg_tbl ∧ Cond.selects (md_y M1).cls (md_y M1) (md_y M1) ∈ sg_tbl
def cl_I (M1 : Md) (n : Nat) : Prop := cl_w M1 n ∧ Cond.instanceMethod (md_y M1) ∈ sg_tbl ∧ (md_y M1).name = "<init>" ∧ md_r M1 = none
theorem cl_good {s : State} {args : Array Value} (C : ∀ w ∈ sg_tbl, w.before args s = true) (h : Cond.code (md_y M1) (md_b M1) (md_n M1) (md_r M1) ∈ sg_tbl) : ∀ w ∈ md_ws M1, ∀ (a' : Array Value) (U : State), s.WarmedH U.vm → w.before a' U = true := by
  intro w hw a' U hU
  have h1 : w ∈ sg_tbl := by
    rcases List.mem_cons.mp hw with e | e
    · rw [e]; exact h
    · exact e
  exact word_at hU (sg_good w h1) (C w h1)
theorem cl_B {idx n : Nat} {s : State} {args : Array Value} (C : ∀ w ∈ sg_tbl, w.before args s = true) (hw : cl_w M1 n) (hk : Cond.methodLink (md_y M).cls idx (md_y M1) ∈ sg_tbl) (hR : rm_ok R d (md_n M1)) : CallB R s args (md_y M).cls idx (md_y M1) (md_b M1) (md_n M1) (md_r M1) (md_ws M1) (rmd d mc ms) mc ms n := by
  obtain ⟨w1, w2, w3, w4⟩ := hw
  refine ⟨rfl, rfl, hR.1, hR.2, cl_good C w1, List.mem_cons_self, C _ w1, C _ w2, w3, fun sig hs => ?_, C _ hk⟩
  rw [hs] at w4
  exact (Option.some.inj w4).symm
theorem cl_BN {idx n : Nat} {s : State} {args : Array Value} (C : ∀ w ∈ sg_tbl, w.before args s = true) (T : Tb g s) (hw : cl_w M1 n) (hk : Cond.methodLinkNest (md_y M).cls idx (md_y M1) sg_host ∈ sg_nest) (hR : rm_ok R d (md_n M1)) : va_CN R s args (md_y M).cls idx (md_y M1) sg_host (md_b M1) (md_n M1) (md_r M1) (md_ws M1) (rmd d mc ms) mc ms n := by
  obtain ⟨w1, w2, w3, w4⟩ := hw
  refine ⟨⟨rfl, rfl, hR.1, hR.2, cl_good C w1, List.mem_cons_self⟩, C _ w1, C _ w2, w3, fun sig hs => ?_, va_Nw.use rfl (T.2.1 _ hk)⟩
  rw [hs] at w4
  exact (Option.some.inj w4).symm
/-- an answer on the stack -/
def psh (r : Option Value) (st : List Value) : List Value := match r with
  | none => st
  | some v => v :: st
theorem psh_eq (r : Option Value) (st : List Value) : r.toList ++ st = psh r st := by cases r <;> rfl
/-- behind a call -/
theorem cl_go {st0 : List Value} {p : Program} {e : Env} {s : State} {m : MethodId} {args : Array Value} {below : List Frame} {meth : Method} {c : Code} {H : Heap} {locs : List Loc} {ls : Array Slot} {a : Array Value}
    (C : Cx g M p s m args meth c) (hF : ∀ q ∈ locs, gx_B g ≤ q.base) (hl : lvk ls (md_n M) L)
    (hr : va_Run p (gx_l g) e R s m args below meth c H locs kc ks mc ms (F0 m pc ls st0) st (Qx g (fun r h1 => Ok g M R Z (kc + mc) (ks + ms) h1 (pc + 3) L (psh r st)) a) (fun q => gx_B g ≤ q)) : W p (gx_l g) e R s m args below meth c H locs kc ks (Z below args s) (F0 m pc ls st0) := by
  intro T hT X
  obtain ⟨v, st₀, t, T', L1, h0, X', hL, e1, e2, ⟨r, h1, hv, hq, hW, hTb⟩, stp⟩ := hr T hT X
  cases hv
  rw [psh_eq] at stp
  obtain ⟨t2, a1, b1⟩ := hq p e s m args below meth c T'.heap (locs ++ L1) ls C (by rw [e1]; exact hW) (fun q hq => by
    rcases List.mem_append.mp hq with z | z
    · exact hF q z
    · exact hL q z) hl T' rfl X'
  exact ⟨t2, stp t2 a1, b1⟩
theorem k_callS {n x0 y0 idx na : Nat}  {As st0 : List Value} (hf : md_f M pc = some (.invokestatic idx, 3, n, x0, y0)) (hs0 : st0 = As.reverse ++ st) (hna : As.length = na) (hst : (st.map fun v => v.category).sum ≤ 8) (hcm : kc + mc ≤ R.cells) (hsm : ks + ms ≤ R.slots) (hR : rm_ok R d (md_n M1)) (hk : Cond.methodLink (md_y M).cls idx (md_y M1) ∈ sg_tbl) (hw : cl_S M1 na)
    (kk : Ct g M1 d mc ms (As) h (fun r h1 => Ok g M R Z (kc + mc) (ks + ms) h1 n L (psh r st))) : Ok g M R Z kc ks h pc L st0 := by
  intro p e s m args below meth c H locs ls C hW hF hl
  obtain ⟨hd, hn, -⟩ := md_dec C.2.2.2.2.2.2.2.2.2.2 hf
  subst hn
  exact cl_go C hF hl (va_runS ⟨C.1, C.2.1, C.2.2.1, C.2.2.2.2.1, C.2.2.2.2.2.1⟩ kk ⟨cl_B C.2.2.2.2.2.1 hw.1 hk hR, C.2.2.2.2.2.1 _ hw.2⟩ ⟨ct_blind, fun U hU hv => ⟨rfl, by rw [hU]; exact hW, Tb_moved C.2.2.2.2.2.2.2.1 hv⟩⟩ rfl hna hl.1.1 hs0 (lv_room hst) hd ⟨hcm, hsm⟩)
theorem k_callSN {n x0 y0 idx na : Nat}  {As st0 : List Value} (hf : md_f M pc = some (.invokestatic idx, 3, n, x0, y0)) (hs0 : st0 = As.reverse ++ st) (hna : As.length = na) (hst : (st.map fun v => v.category).sum ≤ 8) (hcm : kc + mc ≤ R.cells) (hsm : ks + ms ≤ R.slots) (hR : rm_ok R d (md_n M1)) (hk : Cond.methodLinkNest (md_y M).cls idx (md_y M1) sg_host ∈ sg_nest) (hw : cl_S M1 na)
    (kk : Ct g M1 d mc ms (As) h (fun r h1 => Ok g M R Z (kc + mc) (ks + ms) h1 n L (psh r st))) : Ok g M R Z kc ks h pc L st0 := by
  intro p e s m args below meth c H locs ls C hW hF hl
  obtain ⟨hd, hn, -⟩ := md_dec C.2.2.2.2.2.2.2.2.2.2 hf
  subst hn
  exact cl_go C hF hl (va_runSN ⟨C.1, C.2.1, C.2.2.1, C.2.2.2.2.1, C.2.2.2.2.2.1⟩ kk ⟨cl_BN C.2.2.2.2.2.1 C.2.2.2.2.2.2.2.1 hw.1 hk hR, C.2.2.2.2.2.1 _ hw.2, trivial⟩ ⟨ct_blind, fun U hU hv => ⟨rfl, by rw [hU]; exact hW, Tb_moved C.2.2.2.2.2.2.2.1 hv⟩⟩ rfl hna hl.1.1 hs0 (lv_room hst) hd ⟨hcm, hsm⟩)
theorem k_callV {n x0 y0 idx na : Nat} {b ci : Nat} {As st0 : List Value} (hf : md_f M pc = some (.invokevirtual idx, 3, n, x0, y0)) (hs0 : st0 = As.reverse ++ .ref b :: st) (hna : As.length = na) (hst : (st.map fun v => v.category).sum ≤ 8) (hcm : kc + mc ≤ R.cells) (hsm : ks + ms ≤ R.slots) (hR : rm_ok R d (md_n M1)) (hk : Cond.methodLink (md_y M).cls idx (md_y M1) ∈ sg_tbl) (hw : cl_V M1 na) (ho : isO g h b ci) (hc : sg_C ci = (md_y M1).cls)
    (kk : Ct g M1 d mc ms (.ref b :: As) h (fun r h1 => Ok g M R Z (kc + mc) (ks + ms) h1 n L (psh r st))) : Ok g M R Z kc ks h pc L st0 := by
  intro p e s m args below meth c H locs ls C hW hF hl
  obtain ⟨hd, hn, -⟩ := md_dec C.2.2.2.2.2.2.2.2.2.2 hf
  subst hn
  obtain ⟨r, hr, cell, g1, g2, g3, -⟩ := Wd_O hW ho
  have hc2 : r.1 = (md_y M1).cls := by rw [← hc]; unfold sg_C; rw [hr]
  have hrc : ∃ cellB : Cell, H[b]? = some cellB ∧ cellB.vm.isStatics = false ∧ s.vm.findClass (md_y M1).cls = some cellB.cls := ⟨cell, g1, by rw [g3]; rfl, by rw [g2, ← hc2]; exact (C.2.2.2.2.2.2.2.1.1.1 ci r hr).2.1⟩
  exact cl_go C hF hl (va_runV (C := (md_y M1).cls) ⟨C.1, C.2.1, C.2.2.1, C.2.2.2.2.1, C.2.2.2.2.2.1⟩ kk ⟨cl_B C.2.2.2.2.2.1 hw.1 hk hR, C.2.2.2.2.2.1 _ hw.2.1, C.2.2.2.2.2.1 _ hw.2.2⟩ ⟨ct_blind, hrc, fun U hU hv => ⟨rfl, by rw [hU]; exact hW, Tb_moved C.2.2.2.2.2.2.2.1 hv⟩⟩ rfl hna hl.1.1 hs0 (lv_room hst) hd ⟨hcm, hsm⟩)
theorem k_callVN {n x0 y0 idx na : Nat} {b ci : Nat} {As st0 : List Value} (hf : md_f M pc = some (.invokevirtual idx, 3, n, x0, y0)) (hs0 : st0 = As.reverse ++ .ref b :: st) (hna : As.length = na) (hst : (st.map fun v => v.category).sum ≤ 8) (hcm : kc + mc ≤ R.cells) (hsm : ks + ms ≤ R.slots) (hR : rm_ok R d (md_n M1)) (hk : Cond.methodLinkNest (md_y M).cls idx (md_y M1) sg_host ∈ sg_nest) (hw : cl_V M1 na) (ho : isO g h b ci) (hc : sg_C ci = (md_y M1).cls)
    (kk : Ct g M1 d mc ms (.ref b :: As) h (fun r h1 => Ok g M R Z (kc + mc) (ks + ms) h1 n L (psh r st))) : Ok g M R Z kc ks h pc L st0 := by
  intro p e s m args below meth c H locs ls C hW hF hl
  obtain ⟨hd, hn, -⟩ := md_dec C.2.2.2.2.2.2.2.2.2.2 hf
  subst hn
  obtain ⟨r, hr, cell, g1, g2, g3, -⟩ := Wd_O hW ho
  have hc2 : r.1 = (md_y M1).cls := by rw [← hc]; unfold sg_C; rw [hr]
  have hrc : ∃ cellB : Cell, H[b]? = some cellB ∧ cellB.vm.isStatics = false ∧ s.vm.findClass (md_y M1).cls = some cellB.cls := ⟨cell, g1, by rw [g3]; rfl, by rw [g2, ← hc2]; exact (C.2.2.2.2.2.2.2.1.1.1 ci r hr).2.1⟩
  exact cl_go C hF hl (va_runVN (C := (md_y M1).cls) ⟨C.1, C.2.1, C.2.2.1, C.2.2.2.2.1, C.2.2.2.2.2.1⟩ kk ⟨cl_BN C.2.2.2.2.2.1 C.2.2.2.2.2.2.2.1 hw.1 hk hR, C.2.2.2.2.2.1 _ hw.2.1, C.2.2.2.2.2.1 _ hw.2.2⟩ ⟨ct_blind, hrc, fun U hU hv => ⟨rfl, by rw [hU]; exact hW, Tb_moved C.2.2.2.2.2.2.2.1 hv⟩⟩ rfl hna hl.1.1 hs0 (lv_room hst) hd ⟨hcm, hsm⟩)
theorem k_callI {n x0 y0 idx na : Nat} {b : Nat} {As st0 : List Value} (hf : md_f M pc = some (.invokespecial idx, 3, n, x0, y0)) (hs0 : st0 = As.reverse ++ .ref b :: st) (hna : As.length = na) (hst : (st.map fun v => v.category).sum ≤ 8) (hcm : kc + mc ≤ R.cells) (hsm : ks + ms ≤ R.slots) (hR : rm_ok R d (md_n M1)) (hk : Cond.methodLink (md_y M).cls idx (md_y M1) ∈ sg_tbl) (hw : cl_I M1 na)
    (kk : Ct g M1 d mc ms (.ref b :: As) h (fun r h1 => Ok g M R Z (kc + mc) (ks + ms) h1 n L (psh r st))) : Ok g M R Z kc ks h pc L st0 := by
  intro p e s m args below meth c H locs ls C hW hF hl
  obtain ⟨hd, hn, -⟩ := md_dec C.2.2.2.2.2.2.2.2.2.2 hf
  subst hn
  have hB := cl_B (M := M) (M1 := M1) (R := R) (d := d) (mc := mc) (ms := ms) (idx := idx) (n := na) C.2.2.2.2.2.1 hw.1 hk hR
  rw [hw.2.2.2] at hB
  exact cl_go C hF hl (va_runI ⟨C.1, C.2.1, C.2.2.1, C.2.2.2.2.1, C.2.2.2.2.2.1⟩ kk ⟨hB, hw.2.2.1, C.2.2.2.2.2.1 _ hw.2.1⟩ ⟨ct_blind, fun U hU hv => ⟨rfl, by rw [hU]; exact hW, Tb_moved C.2.2.2.2.2.2.2.1 hv⟩⟩ rfl hna hl.1.1 hs0 (lv_room hst) hd ⟨hcm, hsm⟩)
theorem k_callIN {n x0 y0 idx na : Nat} {b : Nat} {As st0 : List Value} (hf : md_f M pc = some (.invokespecial idx, 3, n, x0, y0)) (hs0 : st0 = As.reverse ++ .ref b :: st) (hna : As.length = na) (hst : (st.map fun v => v.category).sum ≤ 8) (hcm : kc + mc ≤ R.cells) (hsm : ks + ms ≤ R.slots) (hR : rm_ok R d (md_n M1)) (hk : Cond.methodLinkNest (md_y M).cls idx (md_y M1) sg_host ∈ sg_nest) (hw : cl_I M1 na)
    (kk : Ct g M1 d mc ms (.ref b :: As) h (fun r h1 => Ok g M R Z (kc + mc) (ks + ms) h1 n L (psh r st))) : Ok g M R Z kc ks h pc L st0 := by
  intro p e s m args below meth c H locs ls C hW hF hl
  obtain ⟨hd, hn, -⟩ := md_dec C.2.2.2.2.2.2.2.2.2.2 hf
  subst hn
  have hB := cl_BN (g := g) (M := M) (M1 := M1) (R := R) (d := d) (mc := mc) (ms := ms) (idx := idx) (n := na) C.2.2.2.2.2.1 C.2.2.2.2.2.2.2.1 hw.1 hk hR
  rw [hw.2.2.2] at hB
  exact cl_go C hF hl (va_runIN ⟨C.1, C.2.1, C.2.2.1, C.2.2.2.2.1, C.2.2.2.2.2.1⟩ kk ⟨hB, hw.2.2.1, C.2.2.2.2.2.1 _ hw.2.1⟩ ⟨ct_blind, fun U hU hv => ⟨rfl, by rw [hU]; exact hW, Tb_moved C.2.2.2.2.2.2.2.1 hv⟩⟩ rfl hna hl.1.1 hs0 (lv_room hst) hd ⟨hcm, hsm⟩)
end CALLS
end
section
-- ===== the methods: tables of their instructions; by wip/whole/names.py =====
theorem fl_S_10 : fd_ok "SearchGrids" 10 3 0 := ⟨("SearchGrids", sg_F3, 12), rfl, by decide, Or.inl wd_116⟩
theorem fl_S_14 : fd_ok "SearchGrids" 14 3 5 := ⟨("SearchGrids", sg_F3, 12), rfl, by decide, Or.inl wd_121⟩
theorem fl_S_20 : fd_ok "SearchGrids" 20 3 1 := ⟨("SearchGrids", sg_F3, 12), rfl, by decide, Or.inl wd_117⟩
theorem fl_S_27 : fd_ok "SearchGrids" 27 3 3 := ⟨("SearchGrids", sg_F3, 12), rfl, by decide, Or.inl wd_119⟩
theorem fl_S_32 : fd_ok "SearchGrids" 32 3 6 := ⟨("SearchGrids", sg_F3, 12), rfl, by decide, Or.inl wd_122⟩
theorem fl_S_38 : fd_ok "SearchGrids" 38 3 7 := ⟨("SearchGrids", sg_F3, 12), rfl, by decide, Or.inl wd_123⟩
theorem fl_S_42 : fd_ok "SearchGrids" 42 3 8 := ⟨("SearchGrids", sg_F3, 12), rfl, by decide, Or.inl wd_124⟩
theorem fl_S_45 : fd_ok "SearchGrids" 45 3 11 := ⟨("SearchGrids", sg_F3, 12), rfl, by decide, Or.inl wd_127⟩
theorem fl_S_70 : fd_ok "SearchGrids" 70 0 0 := ⟨("SearchGrids$Cell", sg_F0, 9), rfl, by decide, Or.inr (nsF (i := 0) (by decide +kernel))⟩
theorem fl_S_77 : fd_ok "SearchGrids" 77 3 4 := ⟨("SearchGrids", sg_F3, 12), rfl, by decide, Or.inl wd_120⟩
theorem fl_S_80 : fd_ok "SearchGrids" 80 1 5 := ⟨("SearchGrids$LookLog", sg_F1, 6), rfl, by decide, Or.inr (nsF (i := 16) (by decide +kernel))⟩
theorem fl_S_109 : fd_ok "SearchGrids" 109 3 2 := ⟨("SearchGrids", sg_F3, 12), rfl, by decide, Or.inl wd_118⟩
theorem fl_S_120 : fd_ok "SearchGrids" 120 0 1 := ⟨("SearchGrids$Cell", sg_F0, 9), rfl, by decide, Or.inr (nsF (i := 1) (by decide +kernel))⟩
theorem fl_S_134 : fd_ok "SearchGrids" 134 0 2 := ⟨("SearchGrids$Cell", sg_F0, 9), rfl, by decide, Or.inr (nsF (i := 2) (by decide +kernel))⟩
theorem fl_S_153 : fd_ok "SearchGrids" 153 0 6 := ⟨("SearchGrids$Cell", sg_F0, 9), rfl, by decide, Or.inr (nsF (i := 6) (by decide +kernel))⟩
theorem fl_S_169 : fd_ok "SearchGrids" 169 3 9 := ⟨("SearchGrids", sg_F3, 12), rfl, by decide, Or.inl wd_125⟩
theorem fl_S_173 : fd_ok "SearchGrids" 173 3 10 := ⟨("SearchGrids", sg_F3, 12), rfl, by decide, Or.inl wd_126⟩
theorem fl_S_180 : fd_ok "SearchGrids" 180 0 8 := ⟨("SearchGrids$Cell", sg_F0, 9), rfl, by decide, Or.inr (nsF (i := 8) (by decide +kernel))⟩
theorem fl_S_186 : fd_ok "SearchGrids" 186 0 5 := ⟨("SearchGrids$Cell", sg_F0, 9), rfl, by decide, Or.inr (nsF (i := 5) (by decide +kernel))⟩
theorem fl_S_189 : fd_ok "SearchGrids" 189 1 4 := ⟨("SearchGrids$LookLog", sg_F1, 6), rfl, by decide, Or.inr (nsF (i := 15) (by decide +kernel))⟩
theorem fl_S_192 : fd_ok "SearchGrids" 192 1 0 := ⟨("SearchGrids$LookLog", sg_F1, 6), rfl, by decide, Or.inr (nsF (i := 12) (by decide +kernel))⟩
theorem fl_S_194 : fd_ok "SearchGrids" 194 1 1 := ⟨("SearchGrids$LookLog", sg_F1, 6), rfl, by decide, Or.inr (nsF (i := 13) (by decide +kernel))⟩
theorem fl_S_196 : fd_ok "SearchGrids" 196 1 2 := ⟨("SearchGrids$LookLog", sg_F1, 6), rfl, by decide, Or.inr (nsF (i := 14) (by decide +kernel))⟩
theorem fl_S_201 : fd_ok "SearchGrids" 201 0 7 := ⟨("SearchGrids$Cell", sg_F0, 9), rfl, by decide, Or.inr (nsF (i := 7) (by decide +kernel))⟩
theorem fl_S_204 : fd_ok "SearchGrids" 204 2 3 := ⟨("SearchGrids$Looker", sg_F2, 5), rfl, by decide, Or.inr (nsF (i := 10) (by decide +kernel))⟩
theorem fl_S_207 : fd_ok "SearchGrids" 207 2 2 := ⟨("SearchGrids$Looker", sg_F2, 5), rfl, by decide, Or.inr (nsF (i := 9) (by decide +kernel))⟩
theorem fl_S_210 : fd_ok "SearchGrids" 210 0 4 := ⟨("SearchGrids$Cell", sg_F0, 9), rfl, by decide, Or.inr (nsF (i := 4) (by decide +kernel))⟩
theorem fl_S_218 : fd_ok "SearchGrids" 218 0 3 := ⟨("SearchGrids$Cell", sg_F0, 9), rfl, by decide, Or.inr (nsF (i := 3) (by decide +kernel))⟩
theorem fl_S_221 : fd_ok "SearchGrids" 221 2 4 := ⟨("SearchGrids$Looker", sg_F2, 5), rfl, by decide, Or.inr (nsF (i := 11) (by decide +kernel))⟩
theorem fl_R_7 : fd_ok "SearchGridsModel" 7 4 2 := ⟨("SearchGridsModel", sg_F4, 21), rfl, by decide, Or.inl wd_380⟩
theorem fl_R_13 : fd_ok "SearchGridsModel" 13 4 3 := ⟨("SearchGridsModel", sg_F4, 21), rfl, by decide, Or.inl wd_381⟩
theorem fl_R_16 : fd_ok "SearchGridsModel" 16 4 4 := ⟨("SearchGridsModel", sg_F4, 21), rfl, by decide, Or.inl wd_382⟩
theorem fl_R_19 : fd_ok "SearchGridsModel" 19 4 5 := ⟨("SearchGridsModel", sg_F4, 21), rfl, by decide, Or.inl wd_383⟩
theorem fl_R_23 : fd_ok "SearchGridsModel" 23 4 7 := ⟨("SearchGridsModel", sg_F4, 21), rfl, by decide, Or.inl wd_385⟩
theorem fl_R_26 : fd_ok "SearchGridsModel" 26 4 8 := ⟨("SearchGridsModel", sg_F4, 21), rfl, by decide, Or.inl wd_386⟩
theorem fl_R_29 : fd_ok "SearchGridsModel" 29 4 9 := ⟨("SearchGridsModel", sg_F4, 21), rfl, by decide, Or.inl wd_387⟩
theorem fl_R_33 : fd_ok "SearchGridsModel" 33 4 10 := ⟨("SearchGridsModel", sg_F4, 21), rfl, by decide, Or.inl wd_388⟩
theorem fl_R_36 : fd_ok "SearchGridsModel" 36 4 11 := ⟨("SearchGridsModel", sg_F4, 21), rfl, by decide, Or.inl wd_389⟩
theorem fl_R_39 : fd_ok "SearchGridsModel" 39 4 12 := ⟨("SearchGridsModel", sg_F4, 21), rfl, by decide, Or.inl wd_390⟩
theorem fl_R_42 : fd_ok "SearchGridsModel" 42 4 14 := ⟨("SearchGridsModel", sg_F4, 21), rfl, by decide, Or.inl wd_392⟩
theorem fl_R_45 : fd_ok "SearchGridsModel" 45 4 15 := ⟨("SearchGridsModel", sg_F4, 21), rfl, by decide, Or.inl wd_393⟩
theorem fl_R_48 : fd_ok "SearchGridsModel" 48 4 16 := ⟨("SearchGridsModel", sg_F4, 21), rfl, by decide, Or.inl wd_394⟩
theorem fl_R_51 : fd_ok "SearchGridsModel" 51 4 17 := ⟨("SearchGridsModel", sg_F4, 21), rfl, by decide, Or.inl wd_395⟩
theorem fl_R_55 : fd_ok "SearchGridsModel" 55 4 18 := ⟨("SearchGridsModel", sg_F4, 21), rfl, by decide, Or.inl wd_396⟩
theorem fl_R_59 : fd_ok "SearchGridsModel" 59 4 0 := ⟨("SearchGridsModel", sg_F4, 21), rfl, by decide, Or.inl wd_378⟩
theorem fl_R_62 : fd_ok "SearchGridsModel" 62 4 6 := ⟨("SearchGridsModel", sg_F4, 21), rfl, by decide, Or.inl wd_384⟩
theorem fl_R_65 : fd_ok "SearchGridsModel" 65 4 1 := ⟨("SearchGridsModel", sg_F4, 21), rfl, by decide, Or.inl wd_379⟩
theorem fl_R_92 : fd_ok "SearchGridsModel" 92 4 13 := ⟨("SearchGridsModel", sg_F4, 21), rfl, by decide, Or.inl wd_391⟩
theorem fl_R_106 : fd_ok "SearchGridsModel" 106 4 19 := ⟨("SearchGridsModel", sg_F4, 21), rfl, by decide, Or.inl wd_397⟩
theorem fl_R_110 : fd_ok "SearchGridsModel" 110 4 20 := ⟨("SearchGridsModel", sg_F4, 21), rfl, by decide, Or.inl wd_398⟩
theorem fl_C_9 : fd_ok "SearchGrids$Cell" 9 0 0 := ⟨("SearchGrids$Cell", sg_F0, 9), rfl, by decide, Or.inl wd_23⟩
theorem fl_C_15 : fd_ok "SearchGrids$Cell" 15 0 1 := ⟨("SearchGrids$Cell", sg_F0, 9), rfl, by decide, Or.inl wd_25⟩
theorem fl_C_18 : fd_ok "SearchGrids$Cell" 18 0 2 := ⟨("SearchGrids$Cell", sg_F0, 9), rfl, by decide, Or.inl wd_27⟩
theorem fl_C_21 : fd_ok "SearchGrids$Cell" 21 0 3 := ⟨("SearchGrids$Cell", sg_F0, 9), rfl, by decide, Or.inl wd_29⟩
theorem fl_C_24 : fd_ok "SearchGrids$Cell" 24 0 4 := ⟨("SearchGrids$Cell", sg_F0, 9), rfl, by decide, Or.inl wd_31⟩
theorem fl_C_28 : fd_ok "SearchGrids$Cell" 28 0 5 := ⟨("SearchGrids$Cell", sg_F0, 9), rfl, by decide, Or.inl wd_33⟩
theorem fl_C_32 : fd_ok "SearchGrids$Cell" 32 0 6 := ⟨("SearchGrids$Cell", sg_F0, 9), rfl, by decide, Or.inl wd_35⟩
theorem fl_C_35 : fd_ok "SearchGrids$Cell" 35 0 7 := ⟨("SearchGrids$Cell", sg_F0, 9), rfl, by decide, Or.inl wd_37⟩
theorem fl_G_9 : fd_ok "SearchGrids$LookLog" 9 1 0 := ⟨("SearchGrids$LookLog", sg_F1, 6), rfl, by decide, Or.inl wd_92⟩
theorem fl_G_15 : fd_ok "SearchGrids$LookLog" 15 1 1 := ⟨("SearchGrids$LookLog", sg_F1, 6), rfl, by decide, Or.inl wd_94⟩
theorem fl_G_18 : fd_ok "SearchGrids$LookLog" 18 1 2 := ⟨("SearchGrids$LookLog", sg_F1, 6), rfl, by decide, Or.inl wd_96⟩
theorem fl_G_21 : fd_ok "SearchGrids$LookLog" 21 1 3 := ⟨("SearchGrids$LookLog", sg_F1, 6), rfl, by decide, Or.inl wd_98⟩
theorem fl_G_25 : fd_ok "SearchGrids$LookLog" 25 1 4 := ⟨("SearchGrids$LookLog", sg_F1, 6), rfl, by decide, Or.inl wd_99⟩
theorem fl_G_28 : fd_ok "SearchGrids$LookLog" 28 1 5 := ⟨("SearchGrids$LookLog", sg_F1, 6), rfl, by decide, Or.inl wd_101⟩
theorem fl_L_9 : fd_ok "SearchGrids$Looker" 9 2 0 := ⟨("SearchGrids$Looker", sg_F2, 5), rfl, by decide, Or.inl wd_68⟩
theorem fl_L_15 : fd_ok "SearchGrids$Looker" 15 2 1 := ⟨("SearchGrids$Looker", sg_F2, 5), rfl, by decide, Or.inl wd_69⟩
theorem fl_L_19 : fd_ok "SearchGrids$Looker" 19 2 2 := ⟨("SearchGrids$Looker", sg_F2, 5), rfl, by decide, Or.inl wd_70⟩
def T_S_init : List En := [(0, .aload_n 0, 1, 1, 0, 0), (1, .invokespecial 1, 3, 4, 0, 0), (4, .aload_n 0, 1, 5, 0, 0), (5, .iload_n 1, 1, 6, 0, 0), (6, .iconst 1, 1, 7, 0, 0), (7, .if_icmp .ge 7, 3, 10, 14, 0), (10, .iconst 1, 1, 11, 0, 0), (11, .goto 15, 3, 14, 26, 0), (14, .iload_n 1, 1, 15, 0, 0), (15, .ldc 9, 2, 17, 0, 0), (17, .if_icmp .le 8, 3, 20, 25, 0), (20, .ldc 9, 2, 22, 0, 0), (22, .goto 4, 3, 25, 26, 0), (25, .iload_n 1, 1, 26, 0, 0), (26, .putfield 10, 3, 29, 3, 0), (29, .aload_n 0, 1, 30, 0, 0), (30, .iconst 4, 1, 31, 0, 0), (31, .newarray .int, 2, 33, 0, 0), (33, .putfield 14, 3, 36, 3, 5), (36, .aload_n 0, 1, 37, 0, 0), (37, .bipush 40, 2, 39, 0, 0), (39, .anewarray 18, 3, 42, 0, 0), (42, .putfield 20, 3, 45, 3, 1), (45, .iconst 0, 1, 46, 0, 0), (46, .istore_n 2, 1, 47, 0, 0), (47, .iload_n 2, 1, 48, 0, 0), (48, .bipush 40, 2, 50, 0, 0), (50, .if_icmp .ge 22, 3, 53, 72, 0), (53, .aload_n 0, 1, 54, 0, 0), (54, .getfield 20, 3, 57, 3, 1), (57, .iload_n 2, 1, 58, 0, 0), (58, .new 18, 3, 61, 0, 0), (61, .dup, 1, 62, 0, 0), (62, .invokespecial 24, 3, 65, 0, 0), (65, .aastore, 1, 66, 0, 0), (66, .iinc 2 1, 3, 69, 0, 0), (69, .goto (-22), 3, 72, 47, 0), (72, .aload_n 0, 1, 73, 0, 0), (73, .iconst 4, 1, 74, 0, 0), (74, .anewarray 25, 3, 77, 0, 0), (77, .putfield 27, 3, 80, 3, 3), (80, .iconst 0, 1, 81, 0, 0), (81, .istore_n 2, 1, 82, 0, 0), (82, .iload_n 2, 1, 83, 0, 0), (83, .iconst 4, 1, 84, 0, 0), (84, .if_icmp .ge 22, 3, 87, 106, 0), (87, .aload_n 0, 1, 88, 0, 0), (88, .getfield 27, 3, 91, 3, 3), (91, .iload_n 2, 1, 92, 0, 0), (92, .new 25, 3, 95, 2, 0), (95, .dup, 1, 96, 0, 0), (96, .invokespecial 31, 3, 99, 0, 0), (99, .aastore, 1, 100, 0, 0), (100, .iinc 2 1, 3, 103, 0, 0), (103, .goto (-21), 3, 106, 82, 0), (106, .aload_n 0, 1, 107, 0, 0), (107, .iconst 1, 1, 108, 0, 0), (108, .putfield 32, 3, 111, 3, 6), (111, .aload_n 0, 1, 112, 0, 0), (112, .new 35, 3, 115, 1, 0), (115, .dup, 1, 116, 0, 0), (116, .invokespecial 37, 3, 119, 0, 0), (119, .putfield 38, 3, 122, 3, 7), (122, .aload_n 0, 1, 123, 0, 0), (123, .iconst (-1), 1, 124, 0, 0), (124, .putfield 42, 3, 127, 3, 8), (127, .aload_n 0, 1, 128, 0, 0), (128, .sipush 720, 3, 131, 0, 0), (131, .newarray .boolean, 2, 133, 0, 0), (133, .putfield 45, 3, 136, 3, 11), (136, .return_, 1, 137, 0, 0)]
def M_S_init : Md := (⟨"SearchGrids", "<init>", "(I)V"⟩, prog_1_method_1_code, 3, none, T_S_init)
theorem ok_S_init : md_ok M_S_init := ⟨by decide +kernel, List.forall_mem_cons.mpr ⟨trivial, List.forall_mem_cons.mpr ⟨trivial, List.forall_mem_cons.mpr ⟨trivial, List.forall_mem_cons.mpr ⟨trivial, List.forall_mem_cons.mpr ⟨trivial, List.forall_mem_cons.mpr ⟨trivial, List.forall_mem_cons.mpr ⟨trivial, List.forall_mem_cons.mpr ⟨trivial, List.forall_mem_cons.mpr ⟨trivial, List.forall_mem_cons.mpr ⟨trivial, List.forall_mem_cons.mpr ⟨trivial, List.forall_mem_cons.mpr ⟨trivial, List.forall_mem_cons.mpr ⟨trivial, List.forall_mem_cons.mpr ⟨trivial, List.forall_mem_cons.mpr ⟨fl_S_10, List.forall_mem_cons.mpr ⟨trivial, List.forall_mem_cons.mpr ⟨trivial, List.forall_mem_cons.mpr ⟨trivial, List.forall_mem_cons.mpr ⟨fl_S_14, List.forall_mem_cons.mpr ⟨trivial, List.forall_mem_cons.mpr ⟨trivial, List.forall_mem_cons.mpr ⟨trivial, List.forall_mem_cons.mpr ⟨fl_S_20, List.forall_mem_cons.mpr ⟨trivial, List.forall_mem_cons.mpr ⟨trivial, List.forall_mem_cons.mpr ⟨trivial, List.forall_mem_cons.mpr ⟨trivial, List.forall_mem_cons.mpr ⟨trivial, List.forall_mem_cons.mpr ⟨trivial, List.forall_mem_cons.mpr ⟨fl_S_20, List.forall_mem_cons.mpr ⟨trivial, List.forall_mem_cons.mpr ⟨trivial, List.forall_mem_cons.mpr ⟨trivial, List.forall_mem_cons.mpr ⟨trivial, List.forall_mem_cons.mpr ⟨trivial, List.forall_mem_cons.mpr ⟨trivial, List.forall_mem_cons.mpr ⟨trivial, List.forall_mem_cons.mpr ⟨trivial, List.forall_mem_cons.mpr ⟨trivial, List.forall_mem_cons.mpr ⟨trivial, List.forall_mem_cons.mpr ⟨fl_S_27, List.forall_mem_cons.mpr ⟨trivial, List.forall_mem_cons.mpr ⟨trivial, List.forall_mem_cons.mpr ⟨trivial, List.forall_mem_cons.mpr ⟨trivial, List.forall_mem_cons.mpr ⟨trivial, List.forall_mem_cons.mpr ⟨trivial, List.forall_mem_cons.mpr ⟨fl_S_27, List.forall_mem_cons.mpr ⟨trivial, List.forall_mem_cons.mpr ⟨trivial, List.forall_mem_cons.mpr ⟨trivial, List.forall_mem_cons.mpr ⟨trivial, List.forall_mem_cons.mpr ⟨trivial, List.forall_mem_cons.mpr ⟨trivial, List.forall_mem_cons.mpr ⟨trivial, List.forall_mem_cons.mpr ⟨trivial, List.forall_mem_cons.mpr ⟨trivial, List.forall_mem_cons.mpr ⟨fl_S_32, List.forall_mem_cons.mpr ⟨trivial, List.forall_mem_cons.mpr ⟨trivial, List.forall_mem_cons.mpr ⟨trivial, List.forall_mem_cons.mpr ⟨trivial, List.forall_mem_cons.mpr ⟨fl_S_38, List.forall_mem_cons.mpr ⟨trivial, List.forall_mem_cons.mpr ⟨trivial, List.forall_mem_cons.mpr ⟨fl_S_42, List.forall_mem_cons.mpr ⟨trivial, List.forall_mem_cons.mpr ⟨trivial, List.forall_mem_cons.mpr ⟨trivial, List.forall_mem_cons.mpr ⟨fl_S_45, List.forall_mem_cons.mpr ⟨trivial, fun _ h => absurd h List.not_mem_nil⟩⟩⟩⟩⟩⟩⟩⟩⟩⟩⟩⟩⟩⟩⟩⟩⟩⟩⟩⟩⟩⟩⟩⟩⟩⟩⟩⟩⟩⟩⟩⟩⟩⟩⟩⟩⟩⟩⟩⟩⟩⟩⟩⟩⟩⟩⟩⟩⟩⟩⟩⟩⟩⟩⟩⟩⟩⟩⟩⟩⟩⟩⟩⟩⟩⟩⟩⟩⟩⟩⟩⟩
theorem cw_S_init : cl_I M_S_init 1 := ⟨⟨wd_11, wd_1, ⟨by decide, by decide⟩, by decide +kernel⟩, wd_10, rfl, rfl⟩
def T_S_counts : List En := [(0, .aload_n 0, 1, 1, 0, 0), (1, .iconst 0, 1, 2, 0, 0), (2, .iload_n 1, 1, 3, 0, 0), (3, .lload_n 2, 1, 4, 0, 0), (4, .invokevirtual 49, 3, 7, 0, 0), (7, .ireturn, 1, 8, 0, 0)]
def M_S_counts : Md := (⟨"SearchGrids", "counts", "(IJ)Z"⟩, prog_1_method_2_code, 4, some .boolean, T_S_counts)
theorem ok_S_counts : md_ok M_S_counts := ⟨by decide +kernel, List.forall_mem_cons.mpr ⟨trivial, List.forall_mem_cons.mpr ⟨trivial, List.forall_mem_cons.mpr ⟨trivial, List.forall_mem_cons.mpr ⟨trivial, List.forall_mem_cons.mpr ⟨trivial, List.forall_mem_cons.mpr ⟨trivial, fun _ h => absurd h List.not_mem_nil⟩⟩⟩⟩⟩⟩⟩
theorem cw_S_counts : cl_V M_S_counts 2 := ⟨⟨wd_156, wd_1, ⟨by decide, by decide⟩, by decide +kernel⟩, wd_154, wd_155⟩
def T_S_odds : List En := [(0, .aload_n 0, 1, 1, 0, 0), (1, .iload_n 1, 1, 2, 0, 0), (2, .invokevirtual 53, 3, 5, 0, 0), (5, .ifCond .eq 10, 3, 8, 15, 0), (8, .iload_n 2, 1, 9, 0, 0), (9, .invokestatic 57, 3, 12, 0, 0), (12, .ifCond .ne 7, 3, 15, 19, 0), (15, .ldc2_w 60, 3, 18, 0, 0), (18, .lreturn, 1, 19, 0, 0), (19, .aload_n 0, 1, 20, 0, 0), (20, .getfield 42, 3, 23, 3, 8), (23, .iconst (-1), 1, 24, 0, 0), (24, .if_icmp .eq 22, 3, 27, 46, 0), (27, .iload_n 1, 1, 28, 0, 0), (28, .aload_n 0, 1, 29, 0, 0), (29, .getfield 42, 3, 32, 3, 8), (32, .if_icmp .ne 7, 3, 35, 39, 0), (35, .lconst 1, 1, 36, 0, 0), (36, .goto 4, 3, 39, 40, 0), (39, .lconst 0, 1, 40, 0, 0), (40, .lconst 1, 1, 41, 0, 0), (41, .iload_n 2, 1, 42, 0, 0), (42, .invokestatic 62, 3, 45, 0, 0), (45, .lreturn, 1, 46, 0, 0), (46, .aload_n 0, 1, 47, 0, 0), (47, .iload_n 1, 1, 48, 0, 0), (48, .invokevirtual 66, 3, 51, 0, 0), (51, .istore_n 3, 1, 52, 0, 0), (52, .iload_n 3, 1, 53, 0, 0), (53, .iconst (-1), 1, 54, 0, 0), (54, .if_icmp .ne 7, 3, 57, 61, 0), (57, .lconst 0, 1, 58, 0, 0), (58, .goto 15, 3, 61, 73, 0), (61, .aload_n 0, 1, 62, 0, 0), (62, .getfield 20, 3, 65, 3, 1), (65, .iload_n 3, 1, 66, 0, 0), (66, .aaload, 1, 67, 0, 0), (67, .getfield 70, 3, 70, 0, 0), (70, .iconst 0, 1, 71, 0, 0), (71, .iaload, 1, 72, 0, 0), (72, .i2l, 1, 73, 0, 0), (73, .aload_n 0, 1, 74, 0, 0), (74, .invokevirtual 73, 3, 77, 0, 0), (77, .iload_n 2, 1, 78, 0, 0), (78, .invokestatic 62, 3, 81, 0, 0), (81, .lreturn, 1, 82, 0, 0)]
def M_S_odds : Md := (⟨"SearchGrids", "odds", "(II)J"⟩, prog_1_method_3_code, 4, some .long, T_S_odds)
theorem ok_S_odds : md_ok M_S_odds := ⟨by decide +kernel, List.forall_mem_cons.mpr ⟨trivial, List.forall_mem_cons.mpr ⟨trivial, List.forall_mem_cons.mpr ⟨trivial, List.forall_mem_cons.mpr ⟨trivial, List.forall_mem_cons.mpr ⟨trivial, List.forall_mem_cons.mpr ⟨trivial, List.forall_mem_cons.mpr ⟨trivial, List.forall_mem_cons.mpr ⟨trivial, List.forall_mem_cons.mpr ⟨trivial, List.forall_mem_cons.mpr ⟨trivial, List.forall_mem_cons.mpr ⟨fl_S_42, List.forall_mem_cons.mpr ⟨trivial, List.forall_mem_cons.mpr ⟨trivial, List.forall_mem_cons.mpr ⟨trivial, List.forall_mem_cons.mpr ⟨trivial, List.forall_mem_cons.mpr ⟨fl_S_42, List.forall_mem_cons.mpr ⟨trivial, List.forall_mem_cons.mpr ⟨trivial, List.forall_mem_cons.mpr ⟨trivial, List.forall_mem_cons.mpr ⟨trivial, List.forall_mem_cons.mpr ⟨trivial, List.forall_mem_cons.mpr ⟨trivial, List.forall_mem_cons.mpr ⟨trivial, List.forall_mem_cons.mpr ⟨trivial, List.forall_mem_cons.mpr ⟨trivial, List.forall_mem_cons.mpr ⟨trivial, List.forall_mem_cons.mpr ⟨trivial, List.forall_mem_cons.mpr ⟨trivial, List.forall_mem_cons.mpr ⟨trivial, List.forall_mem_cons.mpr ⟨trivial, List.forall_mem_cons.mpr ⟨trivial, List.forall_mem_cons.mpr ⟨trivial, List.forall_mem_cons.mpr ⟨trivial, List.forall_mem_cons.mpr ⟨trivial, List.forall_mem_cons.mpr ⟨fl_S_20, List.forall_mem_cons.mpr ⟨trivial, List.forall_mem_cons.mpr ⟨trivial, List.forall_mem_cons.mpr ⟨fl_S_70, List.forall_mem_cons.mpr ⟨trivial, List.forall_mem_cons.mpr ⟨trivial, List.forall_mem_cons.mpr ⟨trivial, List.forall_mem_cons.mpr ⟨trivial, List.forall_mem_cons.mpr ⟨trivial, List.forall_mem_cons.mpr ⟨trivial, List.forall_mem_cons.mpr ⟨trivial, List.forall_mem_cons.mpr ⟨trivial, fun _ h => absurd h List.not_mem_nil⟩⟩⟩⟩⟩⟩⟩⟩⟩⟩⟩⟩⟩⟩⟩⟩⟩⟩⟩⟩⟩⟩⟩⟩⟩⟩⟩⟩⟩⟩⟩⟩⟩⟩⟩⟩⟩⟩⟩⟩⟩⟩⟩⟩⟩⟩⟩
theorem cw_S_odds : cl_V M_S_odds 2 := ⟨⟨wd_184, wd_1, ⟨by decide, by decide⟩, by decide +kernel⟩, wd_182, wd_183⟩
def T_S_looker : List En := [(0, .aload_n 0, 1, 1, 0, 0), (1, .getfield 77, 3, 4, 3, 4), (4, .iconst 4, 1, 5, 0, 0), (5, .if_icmp .ge 13, 3, 8, 18, 0), (8, .aload_n 0, 1, 9, 0, 0), (9, .getfield 38, 3, 12, 3, 7), (12, .getfield 80, 3, 15, 1, 5), (15, .ifCond .le 5, 3, 18, 20, 0), (18, .iconst (-1), 1, 19, 0, 0), (19, .ireturn, 1, 20, 0, 0), (20, .lload_n 1, 1, 21, 0, 0), (21, .lconst 1, 1, 22, 0, 0), (22, .ldc2_w 83, 3, 25, 0, 0), (25, .invokestatic 85, 3, 28, 0, 0), (28, .ifCond .eq 14, 3, 31, 42, 0), (31, .lload_n 3, 1, 32, 0, 0), (32, .lconst 1, 1, 33, 0, 0), (33, .ldc2_w 83, 3, 36, 0, 0), (36, .invokestatic 85, 3, 39, 0, 0), (39, .ifCond .ne 5, 3, 42, 44, 0), (42, .iconst (-1), 1, 43, 0, 0), (43, .ireturn, 1, 44, 0, 0), (44, .lload_n 1, 1, 45, 0, 0), (45, .lload_n 3, 1, 46, 0, 0), (46, .lmul, 1, 47, 0, 0), (47, .ldc2_w 83, 3, 50, 0, 0), (50, .lcmp, 1, 51, 0, 0), (51, .ifCond .gt 16, 3, 54, 67, 0), (54, .iload 5, 2, 56, 0, 0), (56, .i2l, 1, 57, 0, 0), (57, .lconst 1, 1, 58, 0, 0), (58, .ldc2_w 89, 3, 61, 0, 0), (61, .invokestatic 85, 3, 64, 0, 0), (64, .ifCond .ne 5, 3, 67, 69, 0), (67, .iconst (-1), 1, 68, 0, 0), (68, .ireturn, 1, 69, 0, 0), (69, .aload_n 0, 1, 70, 0, 0), (70, .getfield 77, 3, 73, 3, 4), (73, .istore 6, 2, 75, 0, 0), (75, .aload_n 0, 1, 76, 0, 0), (76, .getfield 14, 3, 79, 3, 5), (79, .iload 6, 2, 81, 0, 0), (81, .lload_n 1, 1, 82, 0, 0), (82, .lload_n 3, 1, 83, 0, 0), (83, .lmul, 1, 84, 0, 0), (84, .l2i, 1, 85, 0, 0), (85, .iastore, 1, 86, 0, 0), (86, .aload_n 0, 1, 87, 0, 0), (87, .getfield 27, 3, 90, 3, 3), (90, .iload 6, 2, 92, 0, 0), (92, .aaload, 1, 93, 0, 0), (93, .iload 5, 2, 95, 0, 0), (95, .invokevirtual 91, 3, 98, 0, 0), (98, .aload_n 0, 1, 99, 0, 0), (99, .dup, 1, 100, 0, 0), (100, .getfield 77, 3, 103, 3, 4), (103, .iconst 1, 1, 104, 0, 0), (104, .iadd, 1, 105, 0, 0), (105, .putfield 77, 3, 108, 3, 4), (108, .aload_n 0, 1, 109, 0, 0), (109, .invokevirtual 95, 3, 112, 0, 0), (112, .iload 6, 2, 114, 0, 0), (114, .ireturn, 1, 115, 0, 0)]
def M_S_looker : Md := (⟨"SearchGrids", "looker", "(JJI)I"⟩, prog_1_method_4_code, 7, some .int, T_S_looker)
theorem ok_S_looker : md_ok M_S_looker := ⟨by decide +kernel, List.forall_mem_cons.mpr ⟨trivial, List.forall_mem_cons.mpr ⟨fl_S_77, List.forall_mem_cons.mpr ⟨trivial, List.forall_mem_cons.mpr ⟨trivial, List.forall_mem_cons.mpr ⟨trivial, List.forall_mem_cons.mpr ⟨fl_S_38, List.forall_mem_cons.mpr ⟨fl_S_80, List.forall_mem_cons.mpr ⟨trivial, List.forall_mem_cons.mpr ⟨trivial, List.forall_mem_cons.mpr ⟨trivial, List.forall_mem_cons.mpr ⟨trivial, List.forall_mem_cons.mpr ⟨trivial, List.forall_mem_cons.mpr ⟨trivial, List.forall_mem_cons.mpr ⟨trivial, List.forall_mem_cons.mpr ⟨trivial, List.forall_mem_cons.mpr ⟨trivial, List.forall_mem_cons.mpr ⟨trivial, List.forall_mem_cons.mpr ⟨trivial, List.forall_mem_cons.mpr ⟨trivial, List.forall_mem_cons.mpr ⟨trivial, List.forall_mem_cons.mpr ⟨trivial, List.forall_mem_cons.mpr ⟨trivial, List.forall_mem_cons.mpr ⟨trivial, List.forall_mem_cons.mpr ⟨trivial, List.forall_mem_cons.mpr ⟨trivial, List.forall_mem_cons.mpr ⟨trivial, List.forall_mem_cons.mpr ⟨trivial, List.forall_mem_cons.mpr ⟨trivial, List.forall_mem_cons.mpr ⟨trivial, List.forall_mem_cons.mpr ⟨trivial, List.forall_mem_cons.mpr ⟨trivial, List.forall_mem_cons.mpr ⟨trivial, List.forall_mem_cons.mpr ⟨trivial, List.forall_mem_cons.mpr ⟨trivial, List.forall_mem_cons.mpr ⟨trivial, List.forall_mem_cons.mpr ⟨trivial, List.forall_mem_cons.mpr ⟨trivial, List.forall_mem_cons.mpr ⟨fl_S_77, List.forall_mem_cons.mpr ⟨trivial, List.forall_mem_cons.mpr ⟨trivial, List.forall_mem_cons.mpr ⟨fl_S_14, List.forall_mem_cons.mpr ⟨trivial, List.forall_mem_cons.mpr ⟨trivial, List.forall_mem_cons.mpr ⟨trivial, List.forall_mem_cons.mpr ⟨trivial, List.forall_mem_cons.mpr ⟨trivial, List.forall_mem_cons.mpr ⟨trivial, List.forall_mem_cons.mpr ⟨trivial, List.forall_mem_cons.mpr ⟨fl_S_27, List.forall_mem_cons.mpr ⟨trivial, List.forall_mem_cons.mpr ⟨trivial, List.forall_mem_cons.mpr ⟨trivial, List.forall_mem_cons.mpr ⟨trivial, List.forall_mem_cons.mpr ⟨trivial, List.forall_mem_cons.mpr ⟨trivial, List.forall_mem_cons.mpr ⟨fl_S_77, List.forall_mem_cons.mpr ⟨trivial, List.forall_mem_cons.mpr ⟨trivial, List.forall_mem_cons.mpr ⟨fl_S_77, List.forall_mem_cons.mpr ⟨trivial, List.forall_mem_cons.mpr ⟨trivial, List.forall_mem_cons.mpr ⟨trivial, List.forall_mem_cons.mpr ⟨trivial, fun _ h => absurd h List.not_mem_nil⟩⟩⟩⟩⟩⟩⟩⟩⟩⟩⟩⟩⟩⟩⟩⟩⟩⟩⟩⟩⟩⟩⟩⟩⟩⟩⟩⟩⟩⟩⟩⟩⟩⟩⟩⟩⟩⟩⟩⟩⟩⟩⟩⟩⟩⟩⟩⟩⟩⟩⟩⟩⟩⟩⟩⟩⟩⟩⟩⟩⟩⟩⟩⟩
theorem cw_S_looker : cl_V M_S_looker 3 := ⟨⟨wd_202, wd_1, ⟨by decide, by decide⟩, by decide +kernel⟩, wd_200, wd_201⟩
def T_S_bar : List En := [(0, .aload_n 0, 1, 1, 0, 0), (1, .iload_n 1, 1, 2, 0, 0), (2, .invokevirtual 98, 3, 5, 0, 0), (5, .ifCond .eq 15, 3, 8, 20, 0), (8, .iload_n 2, 1, 9, 0, 0), (9, .i2l, 1, 10, 0, 0), (10, .lconst 0, 1, 11, 0, 0), (11, .ldc2_w 101, 3, 14, 0, 0), (14, .invokestatic 85, 3, 17, 0, 0), (17, .ifCond .ne 5, 3, 20, 22, 0), (20, .iconst 0, 1, 21, 0, 0), (21, .ireturn, 1, 22, 0, 0), (22, .aload_n 0, 1, 23, 0, 0), (23, .getfield 27, 3, 26, 3, 3), (26, .iload_n 1, 1, 27, 0, 0), (27, .aaload, 1, 28, 0, 0), (28, .iload_n 2, 1, 29, 0, 0), (29, .iload_n 2, 1, 30, 0, 0), (30, .iconst 1, 1, 31, 0, 0), (31, .iadd, 1, 32, 0, 0), (32, .invokevirtual 103, 3, 35, 0, 0), (35, .aload_n 0, 1, 36, 0, 0), (36, .invokevirtual 95, 3, 39, 0, 0), (39, .iconst 1, 1, 40, 0, 0), (40, .ireturn, 1, 41, 0, 0)]
def M_S_bar : Md := (⟨"SearchGrids", "bar", "(II)Z"⟩, prog_1_method_5_code, 3, some .boolean, T_S_bar)
theorem ok_S_bar : md_ok M_S_bar := ⟨by decide +kernel, List.forall_mem_cons.mpr ⟨trivial, List.forall_mem_cons.mpr ⟨trivial, List.forall_mem_cons.mpr ⟨trivial, List.forall_mem_cons.mpr ⟨trivial, List.forall_mem_cons.mpr ⟨trivial, List.forall_mem_cons.mpr ⟨trivial, List.forall_mem_cons.mpr ⟨trivial, List.forall_mem_cons.mpr ⟨trivial, List.forall_mem_cons.mpr ⟨trivial, List.forall_mem_cons.mpr ⟨trivial, List.forall_mem_cons.mpr ⟨trivial, List.forall_mem_cons.mpr ⟨trivial, List.forall_mem_cons.mpr ⟨trivial, List.forall_mem_cons.mpr ⟨fl_S_27, List.forall_mem_cons.mpr ⟨trivial, List.forall_mem_cons.mpr ⟨trivial, List.forall_mem_cons.mpr ⟨trivial, List.forall_mem_cons.mpr ⟨trivial, List.forall_mem_cons.mpr ⟨trivial, List.forall_mem_cons.mpr ⟨trivial, List.forall_mem_cons.mpr ⟨trivial, List.forall_mem_cons.mpr ⟨trivial, List.forall_mem_cons.mpr ⟨trivial, List.forall_mem_cons.mpr ⟨trivial, List.forall_mem_cons.mpr ⟨trivial, fun _ h => absurd h List.not_mem_nil⟩⟩⟩⟩⟩⟩⟩⟩⟩⟩⟩⟩⟩⟩⟩⟩⟩⟩⟩⟩⟩⟩⟩⟩⟩⟩
theorem cw_S_bar : cl_V M_S_bar 2 := ⟨⟨wd_211, wd_1, ⟨by decide, by decide⟩, by decide +kernel⟩, wd_209, wd_210⟩
def T_S_share : List En := [(0, .iload_n 1, 1, 1, 0, 0), (1, .i2l, 1, 2, 0, 0), (2, .lconst 0, 1, 3, 0, 0), (3, .ldc2_w 107, 3, 6, 0, 0), (6, .invokestatic 85, 3, 9, 0, 0), (9, .ifCond .ne 5, 3, 12, 14, 0), (12, .iconst (-1), 1, 13, 0, 0), (13, .ireturn, 1, 14, 0, 0), (14, .aload_n 0, 1, 15, 0, 0), (15, .invokevirtual 95, 3, 18, 0, 0), (18, .iconst 0, 1, 19, 0, 0), (19, .istore_n 2, 1, 20, 0, 0), (20, .iload_n 2, 1, 21, 0, 0), (21, .aload_n 0, 1, 22, 0, 0), (22, .getfield 109, 3, 25, 3, 2), (25, .if_icmp .ge 22, 3, 28, 47, 0), (28, .aload_n 0, 1, 29, 0, 0), (29, .getfield 20, 3, 32, 3, 1), (32, .iload_n 2, 1, 33, 0, 0), (33, .aaload, 1, 34, 0, 0), (34, .aload_n 0, 1, 35, 0, 0), (35, .getfield 14, 3, 38, 3, 5), (38, .invokevirtual 112, 3, 41, 0, 0), (41, .iinc 2 1, 3, 44, 0, 0), (44, .goto (-24), 3, 47, 20, 0), (47, .iconst 0, 1, 48, 0, 0), (48, .istore_n 2, 1, 49, 0, 0), (49, .iload_n 2, 1, 50, 0, 0), (50, .iload_n 1, 1, 51, 0, 0), (51, .if_icmp .ge 16, 3, 54, 67, 0), (54, .aload_n 0, 1, 55, 0, 0), (55, .invokevirtual 116, 3, 58, 0, 0), (58, .ifCond .eq 9, 3, 61, 67, 0), (61, .iinc 2 1, 3, 64, 0, 0), (64, .goto (-15), 3, 67, 49, 0), (67, .iload_n 2, 1, 68, 0, 0), (68, .ireturn, 1, 69, 0, 0)]
def M_S_share : Md := (⟨"SearchGrids", "share", "(I)I"⟩, prog_1_method_6_code, 3, some .int, T_S_share)
theorem ok_S_share : md_ok M_S_share := ⟨by decide +kernel, List.forall_mem_cons.mpr ⟨trivial, List.forall_mem_cons.mpr ⟨trivial, List.forall_mem_cons.mpr ⟨trivial, List.forall_mem_cons.mpr ⟨trivial, List.forall_mem_cons.mpr ⟨trivial, List.forall_mem_cons.mpr ⟨trivial, List.forall_mem_cons.mpr ⟨trivial, List.forall_mem_cons.mpr ⟨trivial, List.forall_mem_cons.mpr ⟨trivial, List.forall_mem_cons.mpr ⟨trivial, List.forall_mem_cons.mpr ⟨trivial, List.forall_mem_cons.mpr ⟨trivial, List.forall_mem_cons.mpr ⟨trivial, List.forall_mem_cons.mpr ⟨trivial, List.forall_mem_cons.mpr ⟨fl_S_109, List.forall_mem_cons.mpr ⟨trivial, List.forall_mem_cons.mpr ⟨trivial, List.forall_mem_cons.mpr ⟨fl_S_20, List.forall_mem_cons.mpr ⟨trivial, List.forall_mem_cons.mpr ⟨trivial, List.forall_mem_cons.mpr ⟨trivial, List.forall_mem_cons.mpr ⟨fl_S_14, List.forall_mem_cons.mpr ⟨trivial, List.forall_mem_cons.mpr ⟨trivial, List.forall_mem_cons.mpr ⟨trivial, List.forall_mem_cons.mpr ⟨trivial, List.forall_mem_cons.mpr ⟨trivial, List.forall_mem_cons.mpr ⟨trivial, List.forall_mem_cons.mpr ⟨trivial, List.forall_mem_cons.mpr ⟨trivial, List.forall_mem_cons.mpr ⟨trivial, List.forall_mem_cons.mpr ⟨trivial, List.forall_mem_cons.mpr ⟨trivial, List.forall_mem_cons.mpr ⟨trivial, List.forall_mem_cons.mpr ⟨trivial, List.forall_mem_cons.mpr ⟨trivial, List.forall_mem_cons.mpr ⟨trivial, fun _ h => absurd h List.not_mem_nil⟩⟩⟩⟩⟩⟩⟩⟩⟩⟩⟩⟩⟩⟩⟩⟩⟩⟩⟩⟩⟩⟩⟩⟩⟩⟩⟩⟩⟩⟩⟩⟩⟩⟩⟩⟩⟩⟩
theorem cw_S_share : cl_V M_S_share 1 := ⟨⟨wd_227, wd_1, ⟨by decide, by decide⟩, by decide +kernel⟩, wd_225, wd_226⟩
def T_S_of : List En := [(0, .aload_n 0, 1, 1, 0, 0), (1, .iload_n 1, 1, 2, 0, 0), (2, .invokevirtual 98, 3, 5, 0, 0), (5, .ifCond .eq 11, 3, 8, 16, 0), (8, .aload_n 0, 1, 9, 0, 0), (9, .iload_n 2, 1, 10, 0, 0), (10, .invokevirtual 53, 3, 13, 0, 0), (13, .ifCond .ne 5, 3, 16, 18, 0), (16, .iconst (-1), 1, 17, 0, 0), (17, .ireturn, 1, 18, 0, 0), (18, .aload_n 0, 1, 19, 0, 0), (19, .iload_n 2, 1, 20, 0, 0), (20, .invokevirtual 66, 3, 23, 0, 0), (23, .istore_n 3, 1, 24, 0, 0), (24, .iload_n 3, 1, 25, 0, 0), (25, .iconst (-1), 1, 26, 0, 0), (26, .if_icmp .ne 7, 3, 29, 33, 0), (29, .iconst 0, 1, 30, 0, 0), (30, .goto 14, 3, 33, 44, 0), (33, .aload_n 0, 1, 34, 0, 0), (34, .getfield 20, 3, 37, 3, 1), (37, .iload_n 3, 1, 38, 0, 0), (38, .aaload, 1, 39, 0, 0), (39, .getfield 120, 3, 42, 0, 1), (42, .iload_n 1, 1, 43, 0, 0), (43, .iaload, 1, 44, 0, 0), (44, .ireturn, 1, 45, 0, 0)]
def M_S_of : Md := (⟨"SearchGrids", "of", "(II)I"⟩, prog_1_method_7_code, 4, some .int, T_S_of)
theorem ok_S_of : md_ok M_S_of := ⟨by decide +kernel, List.forall_mem_cons.mpr ⟨trivial, List.forall_mem_cons.mpr ⟨trivial, List.forall_mem_cons.mpr ⟨trivial, List.forall_mem_cons.mpr ⟨trivial, List.forall_mem_cons.mpr ⟨trivial, List.forall_mem_cons.mpr ⟨trivial, List.forall_mem_cons.mpr ⟨trivial, List.forall_mem_cons.mpr ⟨trivial, List.forall_mem_cons.mpr ⟨trivial, List.forall_mem_cons.mpr ⟨trivial, List.forall_mem_cons.mpr ⟨trivial, List.forall_mem_cons.mpr ⟨trivial, List.forall_mem_cons.mpr ⟨trivial, List.forall_mem_cons.mpr ⟨trivial, List.forall_mem_cons.mpr ⟨trivial, List.forall_mem_cons.mpr ⟨trivial, List.forall_mem_cons.mpr ⟨trivial, List.forall_mem_cons.mpr ⟨trivial, List.forall_mem_cons.mpr ⟨trivial, List.forall_mem_cons.mpr ⟨trivial, List.forall_mem_cons.mpr ⟨fl_S_20, List.forall_mem_cons.mpr ⟨trivial, List.forall_mem_cons.mpr ⟨trivial, List.forall_mem_cons.mpr ⟨fl_S_120, List.forall_mem_cons.mpr ⟨trivial, List.forall_mem_cons.mpr ⟨trivial, List.forall_mem_cons.mpr ⟨trivial, fun _ h => absurd h List.not_mem_nil⟩⟩⟩⟩⟩⟩⟩⟩⟩⟩⟩⟩⟩⟩⟩⟩⟩⟩⟩⟩⟩⟩⟩⟩⟩⟩⟩⟩
theorem cw_S_of : cl_V M_S_of 2 := ⟨⟨wd_260, wd_1, ⟨by decide, by decide⟩, by decide +kernel⟩, wd_258, wd_259⟩
def T_S_tried : List En := [(0, .aload_n 0, 1, 1, 0, 0), (1, .invokevirtual 123, 3, 4, 0, 0), (4, .istore_n 1, 1, 5, 0, 0), (5, .aload_n 0, 1, 6, 0, 0), (6, .getfield 109, 3, 9, 3, 2), (9, .aload_n 0, 1, 10, 0, 0), (10, .getfield 77, 3, 13, 3, 4), (13, .imul, 1, 14, 0, 0), (14, .bipush 12, 2, 16, 0, 0), (16, .if_icmp .gt 8, 3, 19, 24, 0), (19, .iload_n 1, 1, 20, 0, 0), (20, .iconst 5, 1, 21, 0, 0), (21, .if_icmp .le 5, 3, 24, 26, 0), (24, .iconst 0, 1, 25, 0, 0), (25, .ireturn, 1, 26, 0, 0), (26, .iload_n 1, 1, 27, 0, 0), (27, .ifCond .eq 18, 3, 30, 45, 0), (30, .aload_n 0, 1, 31, 0, 0), (31, .iconst 0, 1, 32, 0, 0), (32, .iconst 0, 1, 33, 0, 0), (33, .iload_n 1, 1, 34, 0, 0), (34, .lconst 0, 1, 35, 0, 0), (35, .aload_n 0, 1, 36, 0, 0), (36, .invokevirtual 127, 3, 39, 0, 0), (39, .invokevirtual 130, 3, 42, 0, 0), (42, .ifCond .ne 7, 3, 45, 49, 0), (45, .iconst 1, 1, 46, 0, 0), (46, .goto 4, 3, 49, 50, 0), (49, .iconst 0, 1, 50, 0, 0), (50, .ireturn, 1, 51, 0, 0)]
def M_S_tried : Md := (⟨"SearchGrids", "tried", "()Z"⟩, prog_1_method_8_code, 2, some .boolean, T_S_tried)
theorem ok_S_tried : md_ok M_S_tried := ⟨by decide +kernel, List.forall_mem_cons.mpr ⟨trivial, List.forall_mem_cons.mpr ⟨trivial, List.forall_mem_cons.mpr ⟨trivial, List.forall_mem_cons.mpr ⟨trivial, List.forall_mem_cons.mpr ⟨fl_S_109, List.forall_mem_cons.mpr ⟨trivial, List.forall_mem_cons.mpr ⟨fl_S_77, List.forall_mem_cons.mpr ⟨trivial, List.forall_mem_cons.mpr ⟨trivial, List.forall_mem_cons.mpr ⟨trivial, List.forall_mem_cons.mpr ⟨trivial, List.forall_mem_cons.mpr ⟨trivial, List.forall_mem_cons.mpr ⟨trivial, List.forall_mem_cons.mpr ⟨trivial, List.forall_mem_cons.mpr ⟨trivial, List.forall_mem_cons.mpr ⟨trivial, List.forall_mem_cons.mpr ⟨trivial, List.forall_mem_cons.mpr ⟨trivial, List.forall_mem_cons.mpr ⟨trivial, List.forall_mem_cons.mpr ⟨trivial, List.forall_mem_cons.mpr ⟨trivial, List.forall_mem_cons.mpr ⟨trivial, List.forall_mem_cons.mpr ⟨trivial, List.forall_mem_cons.mpr ⟨trivial, List.forall_mem_cons.mpr ⟨trivial, List.forall_mem_cons.mpr ⟨trivial, List.forall_mem_cons.mpr ⟨trivial, List.forall_mem_cons.mpr ⟨trivial, List.forall_mem_cons.mpr ⟨trivial, List.forall_mem_cons.mpr ⟨trivial, fun _ h => absurd h List.not_mem_nil⟩⟩⟩⟩⟩⟩⟩⟩⟩⟩⟩⟩⟩⟩⟩⟩⟩⟩⟩⟩⟩⟩⟩⟩⟩⟩⟩⟩⟩⟩⟩
theorem cw_S_tried : cl_V M_S_tried 0 := ⟨⟨wd_264, wd_1, ⟨by decide, by decide⟩, by decide +kernel⟩, wd_262, wd_263⟩
def T_S_look : List En := [(0, .aload_n 0, 1, 1, 0, 0), (1, .iload_n 2, 1, 2, 0, 0), (2, .invokevirtual 66, 3, 5, 0, 0), (5, .istore 7, 2, 7, 0, 0), (7, .aload_n 0, 1, 8, 0, 0), (8, .iload_n 1, 1, 9, 0, 0), (9, .invokevirtual 98, 3, 12, 0, 0), (12, .ifCond .eq 30, 3, 15, 42, 0), (15, .iload 7, 2, 17, 0, 0), (17, .iconst (-1), 1, 18, 0, 0), (18, .if_icmp .eq 24, 3, 21, 42, 0), (21, .aload_n 0, 1, 22, 0, 0), (22, .getfield 42, 3, 25, 3, 8), (25, .iconst (-1), 1, 26, 0, 0), (26, .if_icmp .ne 16, 3, 29, 42, 0), (29, .aload_n 0, 1, 30, 0, 0), (30, .getfield 38, 3, 33, 3, 7), (33, .getfield 80, 3, 36, 1, 5), (36, .sipush 200, 3, 39, 0, 0), (39, .if_icmp .lt 5, 3, 42, 44, 0), (42, .iconst (-1), 1, 43, 0, 0), (43, .ireturn, 1, 44, 0, 0), (44, .lload_n 3, 1, 45, 0, 0), (45, .lconst 1, 1, 46, 0, 0), (46, .ldc2_w 107, 3, 49, 0, 0), (49, .invokestatic 85, 3, 52, 0, 0), (52, .ifCond .eq 10, 3, 55, 62, 0), (55, .lload 5, 2, 57, 0, 0), (57, .lconst 0, 1, 58, 0, 0), (58, .lcmp, 1, 59, 0, 0), (59, .ifCond .ge 5, 3, 62, 64, 0), (62, .iconst (-1), 1, 63, 0, 0), (63, .ireturn, 1, 64, 0, 0), (64, .lload_n 3, 1, 65, 0, 0), (65, .l2i, 1, 66, 0, 0), (66, .istore 8, 2, 68, 0, 0), (68, .aload_n 0, 1, 69, 0, 0), (69, .getfield 20, 3, 72, 3, 1), (72, .iload 7, 2, 74, 0, 0), (74, .aaload, 1, 75, 0, 0), (75, .getfield 134, 3, 78, 0, 2), (78, .iload_n 1, 1, 79, 0, 0), (79, .dup2, 1, 80, 0, 0), (80, .iaload, 1, 81, 0, 0), (81, .iload 8, 2, 83, 0, 0), (83, .iadd, 1, 84, 0, 0), (84, .iastore, 1, 85, 0, 0), (85, .aload_n 0, 1, 86, 0, 0), (86, .getfield 38, 3, 89, 3, 7), (89, .iload_n 1, 1, 90, 0, 0), (90, .iload_n 2, 1, 91, 0, 0), (91, .iload 8, 2, 93, 0, 0), (93, .lload 5, 2, 95, 0, 0), (95, .invokevirtual 137, 3, 98, 0, 0), (98, .ireturn, 1, 99, 0, 0)]
def M_S_look : Md := (⟨"SearchGrids", "look", "(IIJJ)I"⟩, prog_1_method_9_code, 9, some .int, T_S_look)
theorem ok_S_look : md_ok M_S_look := ⟨by decide +kernel, List.forall_mem_cons.mpr ⟨trivial, List.forall_mem_cons.mpr ⟨trivial, List.forall_mem_cons.mpr ⟨trivial, List.forall_mem_cons.mpr ⟨trivial, List.forall_mem_cons.mpr ⟨trivial, List.forall_mem_cons.mpr ⟨trivial, List.forall_mem_cons.mpr ⟨trivial, List.forall_mem_cons.mpr ⟨trivial, List.forall_mem_cons.mpr ⟨trivial, List.forall_mem_cons.mpr ⟨trivial, List.forall_mem_cons.mpr ⟨trivial, List.forall_mem_cons.mpr ⟨trivial, List.forall_mem_cons.mpr ⟨fl_S_42, List.forall_mem_cons.mpr ⟨trivial, List.forall_mem_cons.mpr ⟨trivial, List.forall_mem_cons.mpr ⟨trivial, List.forall_mem_cons.mpr ⟨fl_S_38, List.forall_mem_cons.mpr ⟨fl_S_80, List.forall_mem_cons.mpr ⟨trivial, List.forall_mem_cons.mpr ⟨trivial, List.forall_mem_cons.mpr ⟨trivial, List.forall_mem_cons.mpr ⟨trivial, List.forall_mem_cons.mpr ⟨trivial, List.forall_mem_cons.mpr ⟨trivial, List.forall_mem_cons.mpr ⟨trivial, List.forall_mem_cons.mpr ⟨trivial, List.forall_mem_cons.mpr ⟨trivial, List.forall_mem_cons.mpr ⟨trivial, List.forall_mem_cons.mpr ⟨trivial, List.forall_mem_cons.mpr ⟨trivial, List.forall_mem_cons.mpr ⟨trivial, List.forall_mem_cons.mpr ⟨trivial, List.forall_mem_cons.mpr ⟨trivial, List.forall_mem_cons.mpr ⟨trivial, List.forall_mem_cons.mpr ⟨trivial, List.forall_mem_cons.mpr ⟨trivial, List.forall_mem_cons.mpr ⟨trivial, List.forall_mem_cons.mpr ⟨fl_S_20, List.forall_mem_cons.mpr ⟨trivial, List.forall_mem_cons.mpr ⟨trivial, List.forall_mem_cons.mpr ⟨fl_S_134, List.forall_mem_cons.mpr ⟨trivial, List.forall_mem_cons.mpr ⟨trivial, List.forall_mem_cons.mpr ⟨trivial, List.forall_mem_cons.mpr ⟨trivial, List.forall_mem_cons.mpr ⟨trivial, List.forall_mem_cons.mpr ⟨trivial, List.forall_mem_cons.mpr ⟨trivial, List.forall_mem_cons.mpr ⟨fl_S_38, List.forall_mem_cons.mpr ⟨trivial, List.forall_mem_cons.mpr ⟨trivial, List.forall_mem_cons.mpr ⟨trivial, List.forall_mem_cons.mpr ⟨trivial, List.forall_mem_cons.mpr ⟨trivial, List.forall_mem_cons.mpr ⟨trivial, fun _ h => absurd h List.not_mem_nil⟩⟩⟩⟩⟩⟩⟩⟩⟩⟩⟩⟩⟩⟩⟩⟩⟩⟩⟩⟩⟩⟩⟩⟩⟩⟩⟩⟩⟩⟩⟩⟩⟩⟩⟩⟩⟩⟩⟩⟩⟩⟩⟩⟩⟩⟩⟩⟩⟩⟩⟩⟩⟩⟩⟩⟩
theorem cw_S_look : cl_V M_S_look 4 := ⟨⟨wd_282, wd_1, ⟨by decide, by decide⟩, by decide +kernel⟩, wd_280, wd_281⟩
def T_S_after : List En := [(0, .aload_n 0, 1, 1, 0, 0), (1, .iload_n 1, 1, 2, 0, 0), (2, .invokevirtual 53, 3, 5, 0, 0), (5, .ifCond .eq 10, 3, 8, 15, 0), (8, .iload_n 2, 1, 9, 0, 0), (9, .invokestatic 57, 3, 12, 0, 0), (12, .ifCond .ne 7, 3, 15, 19, 0), (15, .ldc2_w 60, 3, 18, 0, 0), (18, .lreturn, 1, 19, 0, 0), (19, .aload_n 0, 1, 20, 0, 0), (20, .getfield 42, 3, 23, 3, 8), (23, .iconst (-1), 1, 24, 0, 0), (24, .if_icmp .eq 22, 3, 27, 46, 0), (27, .iload_n 1, 1, 28, 0, 0), (28, .aload_n 0, 1, 29, 0, 0), (29, .getfield 42, 3, 32, 3, 8), (32, .if_icmp .ne 7, 3, 35, 39, 0), (35, .lconst 1, 1, 36, 0, 0), (36, .goto 4, 3, 39, 40, 0), (39, .lconst 0, 1, 40, 0, 0), (40, .lconst 1, 1, 41, 0, 0), (41, .iload_n 2, 1, 42, 0, 0), (42, .invokestatic 62, 3, 45, 0, 0), (45, .lreturn, 1, 46, 0, 0), (46, .aload_n 0, 1, 47, 0, 0), (47, .iload_n 1, 1, 48, 0, 0), (48, .invokevirtual 66, 3, 51, 0, 0), (51, .istore_n 3, 1, 52, 0, 0), (52, .iload_n 3, 1, 53, 0, 0), (53, .iconst (-1), 1, 54, 0, 0), (54, .if_icmp .ne 7, 3, 57, 61, 0), (57, .lconst 0, 1, 58, 0, 0), (58, .goto 16, 3, 61, 74, 0), (61, .aload_n 0, 1, 62, 0, 0), (62, .getfield 20, 3, 65, 3, 1), (65, .iload_n 3, 1, 66, 0, 0), (66, .aaload, 1, 67, 0, 0), (67, .aload_n 0, 1, 68, 0, 0), (68, .getfield 14, 3, 71, 3, 5), (71, .invokevirtual 141, 3, 74, 0, 0), (74, .aload_n 0, 1, 75, 0, 0), (75, .invokevirtual 145, 3, 78, 0, 0), (78, .iload_n 2, 1, 79, 0, 0), (79, .invokestatic 62, 3, 82, 0, 0), (82, .lreturn, 1, 83, 0, 0)]
def M_S_after : Md := (⟨"SearchGrids", "after", "(II)J"⟩, prog_1_method_10_code, 4, some .long, T_S_after)
theorem ok_S_after : md_ok M_S_after := ⟨by decide +kernel, List.forall_mem_cons.mpr ⟨trivial, List.forall_mem_cons.mpr ⟨trivial, List.forall_mem_cons.mpr ⟨trivial, List.forall_mem_cons.mpr ⟨trivial, List.forall_mem_cons.mpr ⟨trivial, List.forall_mem_cons.mpr ⟨trivial, List.forall_mem_cons.mpr ⟨trivial, List.forall_mem_cons.mpr ⟨trivial, List.forall_mem_cons.mpr ⟨trivial, List.forall_mem_cons.mpr ⟨trivial, List.forall_mem_cons.mpr ⟨fl_S_42, List.forall_mem_cons.mpr ⟨trivial, List.forall_mem_cons.mpr ⟨trivial, List.forall_mem_cons.mpr ⟨trivial, List.forall_mem_cons.mpr ⟨trivial, List.forall_mem_cons.mpr ⟨fl_S_42, List.forall_mem_cons.mpr ⟨trivial, List.forall_mem_cons.mpr ⟨trivial, List.forall_mem_cons.mpr ⟨trivial, List.forall_mem_cons.mpr ⟨trivial, List.forall_mem_cons.mpr ⟨trivial, List.forall_mem_cons.mpr ⟨trivial, List.forall_mem_cons.mpr ⟨trivial, List.forall_mem_cons.mpr ⟨trivial, List.forall_mem_cons.mpr ⟨trivial, List.forall_mem_cons.mpr ⟨trivial, List.forall_mem_cons.mpr ⟨trivial, List.forall_mem_cons.mpr ⟨trivial, List.forall_mem_cons.mpr ⟨trivial, List.forall_mem_cons.mpr ⟨trivial, List.forall_mem_cons.mpr ⟨trivial, List.forall_mem_cons.mpr ⟨trivial, List.forall_mem_cons.mpr ⟨trivial, List.forall_mem_cons.mpr ⟨trivial, List.forall_mem_cons.mpr ⟨fl_S_20, List.forall_mem_cons.mpr ⟨trivial, List.forall_mem_cons.mpr ⟨trivial, List.forall_mem_cons.mpr ⟨trivial, List.forall_mem_cons.mpr ⟨fl_S_14, List.forall_mem_cons.mpr ⟨trivial, List.forall_mem_cons.mpr ⟨trivial, List.forall_mem_cons.mpr ⟨trivial, List.forall_mem_cons.mpr ⟨trivial, List.forall_mem_cons.mpr ⟨trivial, List.forall_mem_cons.mpr ⟨trivial, fun _ h => absurd h List.not_mem_nil⟩⟩⟩⟩⟩⟩⟩⟩⟩⟩⟩⟩⟩⟩⟩⟩⟩⟩⟩⟩⟩⟩⟩⟩⟩⟩⟩⟩⟩⟩⟩⟩⟩⟩⟩⟩⟩⟩⟩⟩⟩⟩⟩⟩⟩⟩
theorem cw_S_after : cl_V M_S_after 2 := ⟨⟨wd_290, wd_1, ⟨by decide, by decide⟩, by decide +kernel⟩, wd_288, wd_289⟩
def T_S_sums : List En := [(0, .aload_n 0, 1, 1, 0, 0), (1, .getfield 42, 3, 4, 3, 8), (4, .iconst (-1), 1, 5, 0, 0), (5, .if_icmp .ne 12, 3, 8, 17, 0), (8, .aload_n 0, 1, 9, 0, 0), (9, .invokevirtual 145, 3, 12, 0, 0), (12, .lconst 0, 1, 13, 0, 0), (13, .lcmp, 1, 14, 0, 0), (14, .ifCond .le 7, 3, 17, 21, 0), (17, .iconst 1, 1, 18, 0, 0), (18, .goto 4, 3, 21, 22, 0), (21, .iconst 0, 1, 22, 0, 0), (22, .ireturn, 1, 23, 0, 0)]
def M_S_sums : Md := (⟨"SearchGrids", "sums", "()Z"⟩, prog_1_method_11_code, 1, some .boolean, T_S_sums)
theorem ok_S_sums : md_ok M_S_sums := ⟨by decide +kernel, List.forall_mem_cons.mpr ⟨trivial, List.forall_mem_cons.mpr ⟨fl_S_42, List.forall_mem_cons.mpr ⟨trivial, List.forall_mem_cons.mpr ⟨trivial, List.forall_mem_cons.mpr ⟨trivial, List.forall_mem_cons.mpr ⟨trivial, List.forall_mem_cons.mpr ⟨trivial, List.forall_mem_cons.mpr ⟨trivial, List.forall_mem_cons.mpr ⟨trivial, List.forall_mem_cons.mpr ⟨trivial, List.forall_mem_cons.mpr ⟨trivial, List.forall_mem_cons.mpr ⟨trivial, List.forall_mem_cons.mpr ⟨trivial, fun _ h => absurd h List.not_mem_nil⟩⟩⟩⟩⟩⟩⟩⟩⟩⟩⟩⟩⟩⟩
theorem cw_S_sums : cl_V M_S_sums 0 := ⟨⟨wd_302, wd_1, ⟨by decide, by decide⟩, by decide +kernel⟩, wd_300, wd_301⟩
def T_S_found : List En := [(0, .iload_n 1, 1, 1, 0, 0), (1, .invokestatic 57, 3, 4, 0, 0), (4, .ifCond .ne 7, 3, 7, 11, 0), (7, .ldc2_w 60, 3, 10, 0, 0), (10, .lreturn, 1, 11, 0, 0), (11, .lconst 0, 1, 12, 0, 0), (12, .lstore_n 2, 1, 13, 0, 0), (13, .iconst 0, 1, 14, 0, 0), (14, .istore 4, 2, 16, 0, 0), (16, .iload 4, 2, 18, 0, 0), (18, .aload_n 0, 1, 19, 0, 0), (19, .getfield 109, 3, 22, 3, 2), (22, .if_icmp .ge 22, 3, 25, 44, 0), (25, .lload_n 2, 1, 26, 0, 0), (26, .aload_n 0, 1, 27, 0, 0), (27, .getfield 20, 3, 30, 3, 1), (30, .iload 4, 2, 32, 0, 0), (32, .aaload, 1, 33, 0, 0), (33, .invokevirtual 148, 3, 36, 0, 0), (36, .ladd, 1, 37, 0, 0), (37, .lstore_n 2, 1, 38, 0, 0), (38, .iinc 4 1, 3, 41, 0, 0), (41, .goto (-25), 3, 44, 16, 0), (44, .aload_n 0, 1, 45, 0, 0), (45, .invokevirtual 127, 3, 48, 0, 0), (48, .lload_n 2, 1, 49, 0, 0), (49, .ldc2_w 151, 3, 52, 0, 0), (52, .lmul, 1, 53, 0, 0), (53, .iload_n 1, 1, 54, 0, 0), (54, .invokestatic 62, 3, 57, 0, 0), (57, .lreturn, 1, 58, 0, 0)]
def M_S_found : Md := (⟨"SearchGrids", "found", "(I)J"⟩, prog_1_method_12_code, 5, some .long, T_S_found)
theorem ok_S_found : md_ok M_S_found := ⟨by decide +kernel, List.forall_mem_cons.mpr ⟨trivial, List.forall_mem_cons.mpr ⟨trivial, List.forall_mem_cons.mpr ⟨trivial, List.forall_mem_cons.mpr ⟨trivial, List.forall_mem_cons.mpr ⟨trivial, List.forall_mem_cons.mpr ⟨trivial, List.forall_mem_cons.mpr ⟨trivial, List.forall_mem_cons.mpr ⟨trivial, List.forall_mem_cons.mpr ⟨trivial, List.forall_mem_cons.mpr ⟨trivial, List.forall_mem_cons.mpr ⟨trivial, List.forall_mem_cons.mpr ⟨fl_S_109, List.forall_mem_cons.mpr ⟨trivial, List.forall_mem_cons.mpr ⟨trivial, List.forall_mem_cons.mpr ⟨trivial, List.forall_mem_cons.mpr ⟨fl_S_20, List.forall_mem_cons.mpr ⟨trivial, List.forall_mem_cons.mpr ⟨trivial, List.forall_mem_cons.mpr ⟨trivial, List.forall_mem_cons.mpr ⟨trivial, List.forall_mem_cons.mpr ⟨trivial, List.forall_mem_cons.mpr ⟨trivial, List.forall_mem_cons.mpr ⟨trivial, List.forall_mem_cons.mpr ⟨trivial, List.forall_mem_cons.mpr ⟨trivial, List.forall_mem_cons.mpr ⟨trivial, List.forall_mem_cons.mpr ⟨trivial, List.forall_mem_cons.mpr ⟨trivial, List.forall_mem_cons.mpr ⟨trivial, List.forall_mem_cons.mpr ⟨trivial, List.forall_mem_cons.mpr ⟨trivial, fun _ h => absurd h List.not_mem_nil⟩⟩⟩⟩⟩⟩⟩⟩⟩⟩⟩⟩⟩⟩⟩⟩⟩⟩⟩⟩⟩⟩⟩⟩⟩⟩⟩⟩⟩⟩⟩⟩
theorem cw_S_found : cl_V M_S_found 1 := ⟨⟨wd_306, wd_1, ⟨by decide, by decide⟩, by decide +kernel⟩, wd_304, wd_305⟩
def T_S_line : List En := [(0, .aload_n 0, 1, 1, 0, 0), (1, .iload_n 1, 1, 2, 0, 0), (2, .invokevirtual 66, 3, 5, 0, 0), (5, .istore 4, 2, 7, 0, 0), (7, .iload 4, 2, 9, 0, 0), (9, .iconst (-1), 1, 10, 0, 0), (10, .if_icmp .eq 32, 3, 13, 42, 0), (13, .iload_n 2, 1, 14, 0, 0), (14, .i2l, 1, 15, 0, 0), (15, .lconst 0, 1, 16, 0, 0), (16, .aload_n 0, 1, 17, 0, 0), (17, .getfield 20, 3, 20, 3, 1), (20, .iload 4, 2, 22, 0, 0), (22, .aaload, 1, 23, 0, 0), (23, .getfield 153, 3, 26, 0, 6), (26, .iconst 1, 1, 27, 0, 0), (27, .isub, 1, 28, 0, 0), (28, .i2l, 1, 29, 0, 0), (29, .invokestatic 85, 3, 32, 0, 0), (32, .ifCond .eq 10, 3, 35, 42, 0), (35, .iload_n 3, 1, 36, 0, 0), (36, .invokestatic 57, 3, 39, 0, 0), (39, .ifCond .ne 5, 3, 42, 44, 0), (42, .iconst (-1), 1, 43, 0, 0), (43, .ireturn, 1, 44, 0, 0), (44, .aload_n 0, 1, 45, 0, 0), (45, .getfield 20, 3, 48, 3, 1), (48, .iload 4, 2, 50, 0, 0), (50, .aaload, 1, 51, 0, 0), (51, .getfield 153, 3, 54, 0, 6), (54, .invokestatic 156, 3, 57, 0, 0), (57, .istore 5, 2, 59, 0, 0), (59, .iload_n 3, 1, 60, 0, 0), (60, .ifCond .ne 12, 3, 63, 72, 0), (63, .iload_n 2, 1, 64, 0, 0), (64, .iload 5, 2, 66, 0, 0), (66, .invokestatic 159, 3, 69, 0, 0), (69, .goto 9, 3, 72, 78, 0), (72, .iload_n 2, 1, 73, 0, 0), (73, .iload 5, 2, 75, 0, 0), (75, .invokestatic 163, 3, 78, 0, 0), (78, .ireturn, 1, 79, 0, 0)]
def M_S_line : Md := (⟨"SearchGrids", "line", "(III)I"⟩, prog_1_method_13_code, 6, some .int, T_S_line)
theorem ok_S_line : md_ok M_S_line := ⟨by decide +kernel, List.forall_mem_cons.mpr ⟨trivial, List.forall_mem_cons.mpr ⟨trivial, List.forall_mem_cons.mpr ⟨trivial, List.forall_mem_cons.mpr ⟨trivial, List.forall_mem_cons.mpr ⟨trivial, List.forall_mem_cons.mpr ⟨trivial, List.forall_mem_cons.mpr ⟨trivial, List.forall_mem_cons.mpr ⟨trivial, List.forall_mem_cons.mpr ⟨trivial, List.forall_mem_cons.mpr ⟨trivial, List.forall_mem_cons.mpr ⟨trivial, List.forall_mem_cons.mpr ⟨fl_S_20, List.forall_mem_cons.mpr ⟨trivial, List.forall_mem_cons.mpr ⟨trivial, List.forall_mem_cons.mpr ⟨fl_S_153, List.forall_mem_cons.mpr ⟨trivial, List.forall_mem_cons.mpr ⟨trivial, List.forall_mem_cons.mpr ⟨trivial, List.forall_mem_cons.mpr ⟨trivial, List.forall_mem_cons.mpr ⟨trivial, List.forall_mem_cons.mpr ⟨trivial, List.forall_mem_cons.mpr ⟨trivial, List.forall_mem_cons.mpr ⟨trivial, List.forall_mem_cons.mpr ⟨trivial, List.forall_mem_cons.mpr ⟨trivial, List.forall_mem_cons.mpr ⟨trivial, List.forall_mem_cons.mpr ⟨fl_S_20, List.forall_mem_cons.mpr ⟨trivial, List.forall_mem_cons.mpr ⟨trivial, List.forall_mem_cons.mpr ⟨fl_S_153, List.forall_mem_cons.mpr ⟨trivial, List.forall_mem_cons.mpr ⟨trivial, List.forall_mem_cons.mpr ⟨trivial, List.forall_mem_cons.mpr ⟨trivial, List.forall_mem_cons.mpr ⟨trivial, List.forall_mem_cons.mpr ⟨trivial, List.forall_mem_cons.mpr ⟨trivial, List.forall_mem_cons.mpr ⟨trivial, List.forall_mem_cons.mpr ⟨trivial, List.forall_mem_cons.mpr ⟨trivial, List.forall_mem_cons.mpr ⟨trivial, List.forall_mem_cons.mpr ⟨trivial, fun _ h => absurd h List.not_mem_nil⟩⟩⟩⟩⟩⟩⟩⟩⟩⟩⟩⟩⟩⟩⟩⟩⟩⟩⟩⟩⟩⟩⟩⟩⟩⟩⟩⟩⟩⟩⟩⟩⟩⟩⟩⟩⟩⟩⟩⟩⟩⟩⟩
theorem cw_S_line : cl_V M_S_line 3 := ⟨⟨wd_312, wd_1, ⟨by decide, by decide⟩, by decide +kernel⟩, wd_310, wd_311⟩
def T_S_covers : List En := [(0, .aload_n 0, 1, 1, 0, 0), (1, .iload_n 1, 1, 2, 0, 0), (2, .invokevirtual 66, 3, 5, 0, 0), (5, .istore_n 2, 1, 6, 0, 0), (6, .iload_n 2, 1, 7, 0, 0), (7, .iconst (-1), 1, 8, 0, 0), (8, .if_icmp .ne 5, 3, 11, 13, 0), (11, .iconst 0, 1, 12, 0, 0), (12, .ireturn, 1, 13, 0, 0), (13, .aload_n 0, 1, 14, 0, 0), (14, .getfield 20, 3, 17, 3, 1), (17, .iload_n 2, 1, 18, 0, 0), (18, .aaload, 1, 19, 0, 0), (19, .getfield 153, 3, 22, 0, 6), (22, .istore_n 3, 1, 23, 0, 0), (23, .iload_n 3, 1, 24, 0, 0), (24, .invokestatic 156, 3, 27, 0, 0), (27, .istore 4, 2, 29, 0, 0), (29, .iconst 0, 1, 30, 0, 0), (30, .istore 5, 2, 32, 0, 0), (32, .iload 5, 2, 34, 0, 0), (34, .sipush 720, 3, 37, 0, 0), (37, .if_icmp .ge 17, 3, 40, 54, 0), (40, .aload_n 0, 1, 41, 0, 0), (41, .getfield 45, 3, 44, 3, 11), (44, .iload 5, 2, 46, 0, 0), (46, .iconst 0, 1, 47, 0, 0), (47, .bastore, 1, 48, 0, 0), (48, .iinc 5 1, 3, 51, 0, 0), (51, .goto (-19), 3, 54, 32, 0), (54, .iconst 0, 1, 55, 0, 0), (55, .istore 5, 2, 57, 0, 0), (57, .iload 5, 2, 59, 0, 0), (59, .iload_n 3, 1, 60, 0, 0), (60, .if_icmp .ge 63, 3, 63, 123, 0), (63, .iload 5, 2, 65, 0, 0), (65, .iload 4, 2, 67, 0, 0), (67, .invokestatic 163, 3, 70, 0, 0), (70, .iload 4, 2, 72, 0, 0), (72, .imul, 1, 73, 0, 0), (73, .iload 5, 2, 75, 0, 0), (75, .iload 4, 2, 77, 0, 0), (77, .invokestatic 159, 3, 80, 0, 0), (80, .iadd, 1, 81, 0, 0), (81, .istore 6, 2, 83, 0, 0), (83, .iload 6, 2, 85, 0, 0), (85, .i2l, 1, 86, 0, 0), (86, .lconst 0, 1, 87, 0, 0), (87, .iload_n 3, 1, 88, 0, 0), (88, .iconst 1, 1, 89, 0, 0), (89, .isub, 1, 90, 0, 0), (90, .i2l, 1, 91, 0, 0), (91, .invokestatic 85, 3, 94, 0, 0), (94, .ifCond .eq 13, 3, 97, 107, 0), (97, .aload_n 0, 1, 98, 0, 0), (98, .getfield 45, 3, 101, 3, 11), (101, .iload 6, 2, 103, 0, 0), (103, .baload, 1, 104, 0, 0), (104, .ifCond .eq 5, 3, 107, 109, 0), (107, .iconst 0, 1, 108, 0, 0), (108, .ireturn, 1, 109, 0, 0), (109, .aload_n 0, 1, 110, 0, 0), (110, .getfield 45, 3, 113, 3, 11), (113, .iload 6, 2, 115, 0, 0), (115, .iconst 1, 1, 116, 0, 0), (116, .bastore, 1, 117, 0, 0), (117, .iinc 5 1, 3, 120, 0, 0), (120, .goto (-63), 3, 123, 57, 0), (123, .iconst 1, 1, 124, 0, 0), (124, .ireturn, 1, 125, 0, 0)]
def M_S_covers : Md := (⟨"SearchGrids", "covers", "(I)Z"⟩, prog_1_method_14_code, 7, some .boolean, T_S_covers)
theorem ok_S_covers : md_ok M_S_covers := ⟨by decide +kernel, List.forall_mem_cons.mpr ⟨trivial, List.forall_mem_cons.mpr ⟨trivial, List.forall_mem_cons.mpr ⟨trivial, List.forall_mem_cons.mpr ⟨trivial, List.forall_mem_cons.mpr ⟨trivial, List.forall_mem_cons.mpr ⟨trivial, List.forall_mem_cons.mpr ⟨trivial, List.forall_mem_cons.mpr ⟨trivial, List.forall_mem_cons.mpr ⟨trivial, List.forall_mem_cons.mpr ⟨trivial, List.forall_mem_cons.mpr ⟨fl_S_20, List.forall_mem_cons.mpr ⟨trivial, List.forall_mem_cons.mpr ⟨trivial, List.forall_mem_cons.mpr ⟨fl_S_153, List.forall_mem_cons.mpr ⟨trivial, List.forall_mem_cons.mpr ⟨trivial, List.forall_mem_cons.mpr ⟨trivial, List.forall_mem_cons.mpr ⟨trivial, List.forall_mem_cons.mpr ⟨trivial, List.forall_mem_cons.mpr ⟨trivial, List.forall_mem_cons.mpr ⟨trivial, List.forall_mem_cons.mpr ⟨trivial, List.forall_mem_cons.mpr ⟨trivial, List.forall_mem_cons.mpr ⟨trivial, List.forall_mem_cons.mpr ⟨fl_S_45, List.forall_mem_cons.mpr ⟨trivial, List.forall_mem_cons.mpr ⟨trivial, List.forall_mem_cons.mpr ⟨trivial, List.forall_mem_cons.mpr ⟨trivial, List.forall_mem_cons.mpr ⟨trivial, List.forall_mem_cons.mpr ⟨trivial, List.forall_mem_cons.mpr ⟨trivial, List.forall_mem_cons.mpr ⟨trivial, List.forall_mem_cons.mpr ⟨trivial, List.forall_mem_cons.mpr ⟨trivial, List.forall_mem_cons.mpr ⟨trivial, List.forall_mem_cons.mpr ⟨trivial, List.forall_mem_cons.mpr ⟨trivial, List.forall_mem_cons.mpr ⟨trivial, List.forall_mem_cons.mpr ⟨trivial, List.forall_mem_cons.mpr ⟨trivial, List.forall_mem_cons.mpr ⟨trivial, List.forall_mem_cons.mpr ⟨trivial, List.forall_mem_cons.mpr ⟨trivial, List.forall_mem_cons.mpr ⟨trivial, List.forall_mem_cons.mpr ⟨trivial, List.forall_mem_cons.mpr ⟨trivial, List.forall_mem_cons.mpr ⟨trivial, List.forall_mem_cons.mpr ⟨trivial, List.forall_mem_cons.mpr ⟨trivial, List.forall_mem_cons.mpr ⟨trivial, List.forall_mem_cons.mpr ⟨trivial, List.forall_mem_cons.mpr ⟨trivial, List.forall_mem_cons.mpr ⟨trivial, List.forall_mem_cons.mpr ⟨trivial, List.forall_mem_cons.mpr ⟨fl_S_45, List.forall_mem_cons.mpr ⟨trivial, List.forall_mem_cons.mpr ⟨trivial, List.forall_mem_cons.mpr ⟨trivial, List.forall_mem_cons.mpr ⟨trivial, List.forall_mem_cons.mpr ⟨trivial, List.forall_mem_cons.mpr ⟨trivial, List.forall_mem_cons.mpr ⟨fl_S_45, List.forall_mem_cons.mpr ⟨trivial, List.forall_mem_cons.mpr ⟨trivial, List.forall_mem_cons.mpr ⟨trivial, List.forall_mem_cons.mpr ⟨trivial, List.forall_mem_cons.mpr ⟨trivial, List.forall_mem_cons.mpr ⟨trivial, List.forall_mem_cons.mpr ⟨trivial, fun _ h => absurd h List.not_mem_nil⟩⟩⟩⟩⟩⟩⟩⟩⟩⟩⟩⟩⟩⟩⟩⟩⟩⟩⟩⟩⟩⟩⟩⟩⟩⟩⟩⟩⟩⟩⟩⟩⟩⟩⟩⟩⟩⟩⟩⟩⟩⟩⟩⟩⟩⟩⟩⟩⟩⟩⟩⟩⟩⟩⟩⟩⟩⟩⟩⟩⟩⟩⟩⟩⟩⟩⟩⟩⟩⟩⟩
theorem cw_S_covers : cl_V M_S_covers 1 := ⟨⟨wd_325, wd_1, ⟨by decide, by decide⟩, by decide +kernel⟩, wd_323, wd_324⟩
def T_S_rest : List En := [(0, .aload_n 0, 1, 1, 0, 0), (1, .iload_n 1, 1, 2, 0, 0), (2, .invokevirtual 98, 3, 5, 0, 0), (5, .ifCond .eq 18, 3, 8, 23, 0), (8, .iload_n 2, 1, 9, 0, 0), (9, .ifCond .lt 14, 3, 12, 23, 0), (12, .iload_n 2, 1, 13, 0, 0), (13, .iload_n 3, 1, 14, 0, 0), (14, .if_icmp .ge 9, 3, 17, 23, 0), (17, .iload_n 3, 1, 18, 0, 0), (18, .bipush 24, 2, 20, 0, 0), (20, .if_icmp .le 5, 3, 23, 25, 0), (23, .iconst 0, 1, 24, 0, 0), (24, .ireturn, 1, 25, 0, 0), (25, .aload_n 0, 1, 26, 0, 0), (26, .getfield 27, 3, 29, 3, 3), (29, .iload_n 1, 1, 30, 0, 0), (30, .aaload, 1, 31, 0, 0), (31, .iload_n 2, 1, 32, 0, 0), (32, .iload_n 3, 1, 33, 0, 0), (33, .invokevirtual 103, 3, 36, 0, 0), (36, .aload_n 0, 1, 37, 0, 0), (37, .invokevirtual 95, 3, 40, 0, 0), (40, .iconst 1, 1, 41, 0, 0), (41, .ireturn, 1, 42, 0, 0)]
def M_S_rest : Md := (⟨"SearchGrids", "rest", "(III)Z"⟩, prog_1_method_15_code, 4, some .boolean, T_S_rest)
theorem ok_S_rest : md_ok M_S_rest := ⟨by decide +kernel, List.forall_mem_cons.mpr ⟨trivial, List.forall_mem_cons.mpr ⟨trivial, List.forall_mem_cons.mpr ⟨trivial, List.forall_mem_cons.mpr ⟨trivial, List.forall_mem_cons.mpr ⟨trivial, List.forall_mem_cons.mpr ⟨trivial, List.forall_mem_cons.mpr ⟨trivial, List.forall_mem_cons.mpr ⟨trivial, List.forall_mem_cons.mpr ⟨trivial, List.forall_mem_cons.mpr ⟨trivial, List.forall_mem_cons.mpr ⟨trivial, List.forall_mem_cons.mpr ⟨trivial, List.forall_mem_cons.mpr ⟨trivial, List.forall_mem_cons.mpr ⟨trivial, List.forall_mem_cons.mpr ⟨trivial, List.forall_mem_cons.mpr ⟨fl_S_27, List.forall_mem_cons.mpr ⟨trivial, List.forall_mem_cons.mpr ⟨trivial, List.forall_mem_cons.mpr ⟨trivial, List.forall_mem_cons.mpr ⟨trivial, List.forall_mem_cons.mpr ⟨trivial, List.forall_mem_cons.mpr ⟨trivial, List.forall_mem_cons.mpr ⟨trivial, List.forall_mem_cons.mpr ⟨trivial, List.forall_mem_cons.mpr ⟨trivial, fun _ h => absurd h List.not_mem_nil⟩⟩⟩⟩⟩⟩⟩⟩⟩⟩⟩⟩⟩⟩⟩⟩⟩⟩⟩⟩⟩⟩⟩⟩⟩⟩
theorem cw_S_rest : cl_V M_S_rest 3 := ⟨⟨wd_329, wd_1, ⟨by decide, by decide⟩, by decide +kernel⟩, wd_327, wd_328⟩
def T_S_thing : List En := [(0, .aload_n 0, 1, 1, 0, 0), (1, .getfield 32, 3, 4, 3, 6), (4, .iconst 4, 1, 5, 0, 0), (5, .if_icmp .lt 5, 3, 8, 10, 0), (8, .iconst (-1), 1, 9, 0, 0), (9, .ireturn, 1, 10, 0, 0), (10, .aload_n 0, 1, 11, 0, 0), (11, .getfield 32, 3, 14, 3, 6), (14, .istore_n 1, 1, 15, 0, 0), (15, .aload_n 0, 1, 16, 0, 0), (16, .dup, 1, 17, 0, 0), (17, .getfield 32, 3, 20, 3, 6), (20, .iconst 1, 1, 21, 0, 0), (21, .iadd, 1, 22, 0, 0), (22, .putfield 32, 3, 25, 3, 6), (25, .aload_n 0, 1, 26, 0, 0), (26, .invokevirtual 95, 3, 29, 0, 0), (29, .iload_n 1, 1, 30, 0, 0), (30, .ireturn, 1, 31, 0, 0)]
def M_S_thing : Md := (⟨"SearchGrids", "thing", "()I"⟩, prog_1_method_16_code, 2, some .int, T_S_thing)
theorem ok_S_thing : md_ok M_S_thing := ⟨by decide +kernel, List.forall_mem_cons.mpr ⟨trivial, List.forall_mem_cons.mpr ⟨fl_S_32, List.forall_mem_cons.mpr ⟨trivial, List.forall_mem_cons.mpr ⟨trivial, List.forall_mem_cons.mpr ⟨trivial, List.forall_mem_cons.mpr ⟨trivial, List.forall_mem_cons.mpr ⟨trivial, List.forall_mem_cons.mpr ⟨fl_S_32, List.forall_mem_cons.mpr ⟨trivial, List.forall_mem_cons.mpr ⟨trivial, List.forall_mem_cons.mpr ⟨trivial, List.forall_mem_cons.mpr ⟨fl_S_32, List.forall_mem_cons.mpr ⟨trivial, List.forall_mem_cons.mpr ⟨trivial, List.forall_mem_cons.mpr ⟨fl_S_32, List.forall_mem_cons.mpr ⟨trivial, List.forall_mem_cons.mpr ⟨trivial, List.forall_mem_cons.mpr ⟨trivial, List.forall_mem_cons.mpr ⟨trivial, fun _ h => absurd h List.not_mem_nil⟩⟩⟩⟩⟩⟩⟩⟩⟩⟩⟩⟩⟩⟩⟩⟩⟩⟩⟩⟩
theorem cw_S_thing : cl_V M_S_thing 0 := ⟨⟨wd_333, wd_1, ⟨by decide, by decide⟩, by decide +kernel⟩, wd_331, wd_332⟩
def T_S_countsOf : List En := [(0, .iload_n 1, 1, 1, 0, 0), (1, .i2l, 1, 2, 0, 0), (2, .lconst 0, 1, 3, 0, 0), (3, .aload_n 0, 1, 4, 0, 0), (4, .getfield 32, 3, 7, 3, 6), (7, .iconst 1, 1, 8, 0, 0), (8, .isub, 1, 9, 0, 0), (9, .i2l, 1, 10, 0, 0), (10, .invokestatic 85, 3, 13, 0, 0), (13, .ifCond .eq 19, 3, 16, 32, 0), (16, .aload_n 0, 1, 17, 0, 0), (17, .iload_n 2, 1, 18, 0, 0), (18, .invokevirtual 53, 3, 21, 0, 0), (21, .ifCond .eq 11, 3, 24, 32, 0), (24, .aload_n 0, 1, 25, 0, 0), (25, .getfield 42, 3, 28, 3, 8), (28, .iconst (-1), 1, 29, 0, 0), (29, .if_icmp .eq 5, 3, 32, 34, 0), (32, .iconst 0, 1, 33, 0, 0), (33, .ireturn, 1, 34, 0, 0), (34, .lload_n 3, 1, 35, 0, 0), (35, .lconst 0, 1, 36, 0, 0), (36, .ldc2_w 83, 3, 39, 0, 0), (39, .invokestatic 85, 3, 42, 0, 0), (42, .ifCond .ne 5, 3, 45, 47, 0), (45, .iconst 0, 1, 46, 0, 0), (46, .ireturn, 1, 47, 0, 0), (47, .aload_n 0, 1, 48, 0, 0), (48, .iload_n 2, 1, 49, 0, 0), (49, .invokevirtual 166, 3, 52, 0, 0), (52, .istore 5, 2, 54, 0, 0), (54, .iload 5, 2, 56, 0, 0), (56, .iconst (-1), 1, 57, 0, 0), (57, .if_icmp .ne 5, 3, 60, 62, 0), (60, .iconst 0, 1, 61, 0, 0), (61, .ireturn, 1, 62, 0, 0), (62, .aload_n 0, 1, 63, 0, 0), (63, .getfield 20, 3, 66, 3, 1), (66, .iload 5, 2, 68, 0, 0), (68, .aaload, 1, 69, 0, 0), (69, .getfield 70, 3, 72, 0, 0), (72, .iload_n 1, 1, 73, 0, 0), (73, .lload_n 3, 1, 74, 0, 0), (74, .l2i, 1, 75, 0, 0), (75, .iastore, 1, 76, 0, 0), (76, .aload_n 0, 1, 77, 0, 0), (77, .invokevirtual 95, 3, 80, 0, 0), (80, .iconst 1, 1, 81, 0, 0), (81, .ireturn, 1, 82, 0, 0)]
def M_S_countsOf : Md := (⟨"SearchGrids", "countsOf", "(IIJ)Z"⟩, prog_1_method_17_code, 6, some .boolean, T_S_countsOf)
theorem ok_S_countsOf : md_ok M_S_countsOf := ⟨by decide +kernel, List.forall_mem_cons.mpr ⟨trivial, List.forall_mem_cons.mpr ⟨trivial, List.forall_mem_cons.mpr ⟨trivial, List.forall_mem_cons.mpr ⟨trivial, List.forall_mem_cons.mpr ⟨fl_S_32, List.forall_mem_cons.mpr ⟨trivial, List.forall_mem_cons.mpr ⟨trivial, List.forall_mem_cons.mpr ⟨trivial, List.forall_mem_cons.mpr ⟨trivial, List.forall_mem_cons.mpr ⟨trivial, List.forall_mem_cons.mpr ⟨trivial, List.forall_mem_cons.mpr ⟨trivial, List.forall_mem_cons.mpr ⟨trivial, List.forall_mem_cons.mpr ⟨trivial, List.forall_mem_cons.mpr ⟨trivial, List.forall_mem_cons.mpr ⟨fl_S_42, List.forall_mem_cons.mpr ⟨trivial, List.forall_mem_cons.mpr ⟨trivial, List.forall_mem_cons.mpr ⟨trivial, List.forall_mem_cons.mpr ⟨trivial, List.forall_mem_cons.mpr ⟨trivial, List.forall_mem_cons.mpr ⟨trivial, List.forall_mem_cons.mpr ⟨trivial, List.forall_mem_cons.mpr ⟨trivial, List.forall_mem_cons.mpr ⟨trivial, List.forall_mem_cons.mpr ⟨trivial, List.forall_mem_cons.mpr ⟨trivial, List.forall_mem_cons.mpr ⟨trivial, List.forall_mem_cons.mpr ⟨trivial, List.forall_mem_cons.mpr ⟨trivial, List.forall_mem_cons.mpr ⟨trivial, List.forall_mem_cons.mpr ⟨trivial, List.forall_mem_cons.mpr ⟨trivial, List.forall_mem_cons.mpr ⟨trivial, List.forall_mem_cons.mpr ⟨trivial, List.forall_mem_cons.mpr ⟨trivial, List.forall_mem_cons.mpr ⟨trivial, List.forall_mem_cons.mpr ⟨fl_S_20, List.forall_mem_cons.mpr ⟨trivial, List.forall_mem_cons.mpr ⟨trivial, List.forall_mem_cons.mpr ⟨fl_S_70, List.forall_mem_cons.mpr ⟨trivial, List.forall_mem_cons.mpr ⟨trivial, List.forall_mem_cons.mpr ⟨trivial, List.forall_mem_cons.mpr ⟨trivial, List.forall_mem_cons.mpr ⟨trivial, List.forall_mem_cons.mpr ⟨trivial, List.forall_mem_cons.mpr ⟨trivial, List.forall_mem_cons.mpr ⟨trivial, fun _ h => absurd h List.not_mem_nil⟩⟩⟩⟩⟩⟩⟩⟩⟩⟩⟩⟩⟩⟩⟩⟩⟩⟩⟩⟩⟩⟩⟩⟩⟩⟩⟩⟩⟩⟩⟩⟩⟩⟩⟩⟩⟩⟩⟩⟩⟩⟩⟩⟩⟩⟩⟩⟩⟩⟩
theorem cw_S_countsOf : cl_V M_S_countsOf 3 := ⟨⟨wd_160, wd_1, ⟨by decide, by decide⟩, by decide +kernel⟩, wd_158, wd_159⟩
def T_S_stop : List En := [(0, .lload_n 3, 1, 1, 0, 0), (1, .lconst 1, 1, 2, 0, 0), (2, .ldc2_w 107, 3, 5, 0, 0), (5, .invokestatic 85, 3, 8, 0, 0), (8, .ifCond .eq 12, 3, 11, 20, 0), (11, .lload_n 1, 1, 12, 0, 0), (12, .lconst 0, 1, 13, 0, 0), (13, .lload_n 3, 1, 14, 0, 0), (14, .invokestatic 85, 3, 17, 0, 0), (17, .ifCond .ne 5, 3, 20, 22, 0), (20, .iconst 0, 1, 21, 0, 0), (21, .ireturn, 1, 22, 0, 0), (22, .aload_n 0, 1, 23, 0, 0), (23, .lload_n 1, 1, 24, 0, 0), (24, .putfield 169, 3, 27, 3, 9), (27, .aload_n 0, 1, 28, 0, 0), (28, .lload_n 3, 1, 29, 0, 0), (29, .putfield 173, 3, 32, 3, 10), (32, .aload_n 0, 1, 33, 0, 0), (33, .invokevirtual 95, 3, 36, 0, 0), (36, .iconst 1, 1, 37, 0, 0), (37, .ireturn, 1, 38, 0, 0)]
def M_S_stop : Md := (⟨"SearchGrids", "stop", "(JJ)Z"⟩, prog_1_method_18_code, 5, some .boolean, T_S_stop)
theorem ok_S_stop : md_ok M_S_stop := ⟨by decide +kernel, List.forall_mem_cons.mpr ⟨trivial, List.forall_mem_cons.mpr ⟨trivial, List.forall_mem_cons.mpr ⟨trivial, List.forall_mem_cons.mpr ⟨trivial, List.forall_mem_cons.mpr ⟨trivial, List.forall_mem_cons.mpr ⟨trivial, List.forall_mem_cons.mpr ⟨trivial, List.forall_mem_cons.mpr ⟨trivial, List.forall_mem_cons.mpr ⟨trivial, List.forall_mem_cons.mpr ⟨trivial, List.forall_mem_cons.mpr ⟨trivial, List.forall_mem_cons.mpr ⟨trivial, List.forall_mem_cons.mpr ⟨trivial, List.forall_mem_cons.mpr ⟨trivial, List.forall_mem_cons.mpr ⟨fl_S_169, List.forall_mem_cons.mpr ⟨trivial, List.forall_mem_cons.mpr ⟨trivial, List.forall_mem_cons.mpr ⟨fl_S_173, List.forall_mem_cons.mpr ⟨trivial, List.forall_mem_cons.mpr ⟨trivial, List.forall_mem_cons.mpr ⟨trivial, List.forall_mem_cons.mpr ⟨trivial, fun _ h => absurd h List.not_mem_nil⟩⟩⟩⟩⟩⟩⟩⟩⟩⟩⟩⟩⟩⟩⟩⟩⟩⟩⟩⟩⟩⟩⟩
theorem cw_S_stop : cl_V M_S_stop 2 := ⟨⟨wd_338, wd_1, ⟨by decide, by decide⟩, by decide +kernel⟩, wd_336, wd_337⟩
def T_S_stops : List En := [(0, .aload_n 0, 1, 1, 0, 0), (1, .invokevirtual 73, 3, 4, 0, 0), (4, .ldc2_w 151, 3, 7, 0, 0), (7, .lmul, 1, 8, 0, 0), (8, .lstore_n 1, 1, 9, 0, 0), (9, .aload_n 0, 1, 10, 0, 0), (10, .getfield 173, 3, 13, 3, 10), (13, .lconst 0, 1, 14, 0, 0), (14, .lcmp, 1, 15, 0, 0), (15, .ifCond .eq 9, 3, 18, 24, 0), (18, .lload_n 1, 1, 19, 0, 0), (19, .lconst 0, 1, 20, 0, 0), (20, .lcmp, 1, 21, 0, 0), (21, .ifCond .ne 5, 3, 24, 26, 0), (24, .iconst (-1), 1, 25, 0, 0), (25, .ireturn, 1, 26, 0, 0), (26, .aload_n 0, 1, 27, 0, 0), (27, .getfield 42, 3, 30, 3, 8), (30, .iconst (-1), 1, 31, 0, 0), (31, .if_icmp .eq 5, 3, 34, 36, 0), (34, .iconst 1, 1, 35, 0, 0), (35, .ireturn, 1, 36, 0, 0), (36, .lload_n 1, 1, 37, 0, 0), (37, .aload_n 0, 1, 38, 0, 0), (38, .invokevirtual 145, 3, 41, 0, 0), (41, .lsub, 1, 42, 0, 0), (42, .aload_n 0, 1, 43, 0, 0), (43, .getfield 173, 3, 46, 3, 10), (46, .lmul, 1, 47, 0, 0), (47, .aload_n 0, 1, 48, 0, 0), (48, .getfield 169, 3, 51, 3, 9), (51, .lload_n 1, 1, 52, 0, 0), (52, .lmul, 1, 53, 0, 0), (53, .lcmp, 1, 54, 0, 0), (54, .ifCond .lt 7, 3, 57, 61, 0), (57, .iconst 1, 1, 58, 0, 0), (58, .goto 4, 3, 61, 62, 0), (61, .iconst 0, 1, 62, 0, 0), (62, .ireturn, 1, 63, 0, 0)]
def M_S_stops : Md := (⟨"SearchGrids", "stops", "()I"⟩, prog_1_method_19_code, 3, some .int, T_S_stops)
theorem ok_S_stops : md_ok M_S_stops := ⟨by decide +kernel, List.forall_mem_cons.mpr ⟨trivial, List.forall_mem_cons.mpr ⟨trivial, List.forall_mem_cons.mpr ⟨trivial, List.forall_mem_cons.mpr ⟨trivial, List.forall_mem_cons.mpr ⟨trivial, List.forall_mem_cons.mpr ⟨trivial, List.forall_mem_cons.mpr ⟨fl_S_173, List.forall_mem_cons.mpr ⟨trivial, List.forall_mem_cons.mpr ⟨trivial, List.forall_mem_cons.mpr ⟨trivial, List.forall_mem_cons.mpr ⟨trivial, List.forall_mem_cons.mpr ⟨trivial, List.forall_mem_cons.mpr ⟨trivial, List.forall_mem_cons.mpr ⟨trivial, List.forall_mem_cons.mpr ⟨trivial, List.forall_mem_cons.mpr ⟨trivial, List.forall_mem_cons.mpr ⟨trivial, List.forall_mem_cons.mpr ⟨fl_S_42, List.forall_mem_cons.mpr ⟨trivial, List.forall_mem_cons.mpr ⟨trivial, List.forall_mem_cons.mpr ⟨trivial, List.forall_mem_cons.mpr ⟨trivial, List.forall_mem_cons.mpr ⟨trivial, List.forall_mem_cons.mpr ⟨trivial, List.forall_mem_cons.mpr ⟨trivial, List.forall_mem_cons.mpr ⟨trivial, List.forall_mem_cons.mpr ⟨trivial, List.forall_mem_cons.mpr ⟨fl_S_173, List.forall_mem_cons.mpr ⟨trivial, List.forall_mem_cons.mpr ⟨trivial, List.forall_mem_cons.mpr ⟨fl_S_169, List.forall_mem_cons.mpr ⟨trivial, List.forall_mem_cons.mpr ⟨trivial, List.forall_mem_cons.mpr ⟨trivial, List.forall_mem_cons.mpr ⟨trivial, List.forall_mem_cons.mpr ⟨trivial, List.forall_mem_cons.mpr ⟨trivial, List.forall_mem_cons.mpr ⟨trivial, List.forall_mem_cons.mpr ⟨trivial, fun _ h => absurd h List.not_mem_nil⟩⟩⟩⟩⟩⟩⟩⟩⟩⟩⟩⟩⟩⟩⟩⟩⟩⟩⟩⟩⟩⟩⟩⟩⟩⟩⟩⟩⟩⟩⟩⟩⟩⟩⟩⟩⟩⟩⟩⟩
theorem cw_S_stops : cl_V M_S_stops 0 := ⟨⟨wd_342, wd_1, ⟨by decide, by decide⟩, by decide +kernel⟩, wd_340, wd_341⟩
def T_S_order : List En := [(0, .iload_n 1, 1, 1, 0, 0), (1, .i2l, 1, 2, 0, 0), (2, .lconst 0, 1, 3, 0, 0), (3, .aload_n 0, 1, 4, 0, 0), (4, .getfield 109, 3, 7, 3, 2), (7, .iconst 1, 1, 8, 0, 0), (8, .isub, 1, 9, 0, 0), (9, .i2l, 1, 10, 0, 0), (10, .invokestatic 85, 3, 13, 0, 0), (13, .ifCond .ne 5, 3, 16, 18, 0), (16, .iconst (-1), 1, 17, 0, 0), (17, .ireturn, 1, 18, 0, 0), (18, .iconst 0, 1, 19, 0, 0), (19, .istore_n 2, 1, 20, 0, 0), (20, .iload_n 2, 1, 21, 0, 0), (21, .aload_n 0, 1, 22, 0, 0), (22, .getfield 109, 3, 25, 3, 2), (25, .if_icmp .ge 28, 3, 28, 53, 0), (28, .aload_n 0, 1, 29, 0, 0), (29, .getfield 20, 3, 32, 3, 1), (32, .iload_n 2, 1, 33, 0, 0), (33, .aaload, 1, 34, 0, 0), (34, .aload_n 0, 1, 35, 0, 0), (35, .aload_n 0, 1, 36, 0, 0), (36, .getfield 20, 3, 39, 3, 1), (39, .iload_n 2, 1, 40, 0, 0), (40, .aaload, 1, 41, 0, 0), (41, .invokevirtual 176, 3, 44, 0, 0), (44, .putfield 180, 3, 47, 0, 8), (47, .iinc 2 1, 3, 50, 0, 0), (50, .goto (-30), 3, 53, 20, 0), (53, .iconst 0, 1, 54, 0, 0), (54, .istore_n 2, 1, 55, 0, 0), (55, .iload_n 2, 1, 56, 0, 0), (56, .aload_n 0, 1, 57, 0, 0), (57, .getfield 109, 3, 60, 3, 2), (60, .if_icmp .ge 28, 3, 63, 88, 0), (63, .aload_n 0, 1, 64, 0, 0), (64, .iload_n 2, 1, 65, 0, 0), (65, .invokevirtual 183, 3, 68, 0, 0), (68, .iload_n 1, 1, 69, 0, 0), (69, .if_icmp .ne 13, 3, 72, 82, 0), (72, .aload_n 0, 1, 73, 0, 0), (73, .getfield 20, 3, 76, 3, 1), (76, .iload_n 2, 1, 77, 0, 0), (77, .aaload, 1, 78, 0, 0), (78, .getfield 186, 3, 81, 0, 5), (81, .ireturn, 1, 82, 0, 0), (82, .iinc 2 1, 3, 85, 0, 0), (85, .goto (-30), 3, 88, 55, 0), (88, .iconst (-1), 1, 89, 0, 0), (89, .ireturn, 1, 90, 0, 0)]
def M_S_order : Md := (⟨"SearchGrids", "order", "(I)I"⟩, prog_1_method_20_code, 3, some .int, T_S_order)
theorem ok_S_order : md_ok M_S_order := ⟨by decide +kernel, List.forall_mem_cons.mpr ⟨trivial, List.forall_mem_cons.mpr ⟨trivial, List.forall_mem_cons.mpr ⟨trivial, List.forall_mem_cons.mpr ⟨trivial, List.forall_mem_cons.mpr ⟨fl_S_109, List.forall_mem_cons.mpr ⟨trivial, List.forall_mem_cons.mpr ⟨trivial, List.forall_mem_cons.mpr ⟨trivial, List.forall_mem_cons.mpr ⟨trivial, List.forall_mem_cons.mpr ⟨trivial, List.forall_mem_cons.mpr ⟨trivial, List.forall_mem_cons.mpr ⟨trivial, List.forall_mem_cons.mpr ⟨trivial, List.forall_mem_cons.mpr ⟨trivial, List.forall_mem_cons.mpr ⟨trivial, List.forall_mem_cons.mpr ⟨trivial, List.forall_mem_cons.mpr ⟨fl_S_109, List.forall_mem_cons.mpr ⟨trivial, List.forall_mem_cons.mpr ⟨trivial, List.forall_mem_cons.mpr ⟨fl_S_20, List.forall_mem_cons.mpr ⟨trivial, List.forall_mem_cons.mpr ⟨trivial, List.forall_mem_cons.mpr ⟨trivial, List.forall_mem_cons.mpr ⟨trivial, List.forall_mem_cons.mpr ⟨fl_S_20, List.forall_mem_cons.mpr ⟨trivial, List.forall_mem_cons.mpr ⟨trivial, List.forall_mem_cons.mpr ⟨trivial, List.forall_mem_cons.mpr ⟨fl_S_180, List.forall_mem_cons.mpr ⟨trivial, List.forall_mem_cons.mpr ⟨trivial, List.forall_mem_cons.mpr ⟨trivial, List.forall_mem_cons.mpr ⟨trivial, List.forall_mem_cons.mpr ⟨trivial, List.forall_mem_cons.mpr ⟨trivial, List.forall_mem_cons.mpr ⟨fl_S_109, List.forall_mem_cons.mpr ⟨trivial, List.forall_mem_cons.mpr ⟨trivial, List.forall_mem_cons.mpr ⟨trivial, List.forall_mem_cons.mpr ⟨trivial, List.forall_mem_cons.mpr ⟨trivial, List.forall_mem_cons.mpr ⟨trivial, List.forall_mem_cons.mpr ⟨trivial, List.forall_mem_cons.mpr ⟨fl_S_20, List.forall_mem_cons.mpr ⟨trivial, List.forall_mem_cons.mpr ⟨trivial, List.forall_mem_cons.mpr ⟨fl_S_186, List.forall_mem_cons.mpr ⟨trivial, List.forall_mem_cons.mpr ⟨trivial, List.forall_mem_cons.mpr ⟨trivial, List.forall_mem_cons.mpr ⟨trivial, List.forall_mem_cons.mpr ⟨trivial, fun _ h => absurd h List.not_mem_nil⟩⟩⟩⟩⟩⟩⟩⟩⟩⟩⟩⟩⟩⟩⟩⟩⟩⟩⟩⟩⟩⟩⟩⟩⟩⟩⟩⟩⟩⟩⟩⟩⟩⟩⟩⟩⟩⟩⟩⟩⟩⟩⟩⟩⟩⟩⟩⟩⟩⟩⟩⟩⟩
theorem cw_S_order : cl_V M_S_order 1 := ⟨⟨wd_346, wd_1, ⟨by decide, by decide⟩, by decide +kernel⟩, wd_344, wd_345⟩
def T_S_seen : List En := [(0, .aload_n 0, 1, 1, 0, 0), (1, .iload_n 1, 1, 2, 0, 0), (2, .invokevirtual 66, 3, 5, 0, 0), (5, .istore_n 3, 1, 6, 0, 0), (6, .iload_n 3, 1, 7, 0, 0), (7, .iconst (-1), 1, 8, 0, 0), (8, .if_icmp .eq 19, 3, 11, 27, 0), (11, .aload_n 0, 1, 12, 0, 0), (12, .iload_n 2, 1, 13, 0, 0), (13, .invokevirtual 98, 3, 16, 0, 0), (16, .ifCond .eq 11, 3, 19, 27, 0), (19, .aload_n 0, 1, 20, 0, 0), (20, .getfield 42, 3, 23, 3, 8), (23, .iconst (-1), 1, 24, 0, 0), (24, .if_icmp .eq 5, 3, 27, 29, 0), (27, .iconst 0, 1, 28, 0, 0), (28, .ireturn, 1, 29, 0, 0), (29, .aload_n 0, 1, 30, 0, 0), (30, .getfield 20, 3, 33, 3, 1), (33, .iload_n 3, 1, 34, 0, 0), (34, .aaload, 1, 35, 0, 0), (35, .getfield 134, 3, 38, 0, 2), (38, .iload_n 2, 1, 39, 0, 0), (39, .iaload, 1, 40, 0, 0), (40, .ifCond .eq 17, 3, 43, 57, 0), (43, .aload_n 0, 1, 44, 0, 0), (44, .getfield 20, 3, 47, 3, 1), (47, .iload_n 3, 1, 48, 0, 0), (48, .aaload, 1, 49, 0, 0), (49, .getfield 70, 3, 52, 0, 0), (52, .iconst 0, 1, 53, 0, 0), (53, .iaload, 1, 54, 0, 0), (54, .ifCond .ne 5, 3, 57, 59, 0), (57, .iconst 0, 1, 58, 0, 0), (58, .ireturn, 1, 59, 0, 0), (59, .aload_n 0, 1, 60, 0, 0), (60, .iload_n 1, 1, 61, 0, 0), (61, .putfield 42, 3, 64, 3, 8), (64, .aload_n 0, 1, 65, 0, 0), (65, .invokevirtual 95, 3, 68, 0, 0), (68, .iconst 1, 1, 69, 0, 0), (69, .ireturn, 1, 70, 0, 0)]
def M_S_seen : Md := (⟨"SearchGrids", "seen", "(II)Z"⟩, prog_1_method_21_code, 4, some .boolean, T_S_seen)
theorem ok_S_seen : md_ok M_S_seen := ⟨by decide +kernel, List.forall_mem_cons.mpr ⟨trivial, List.forall_mem_cons.mpr ⟨trivial, List.forall_mem_cons.mpr ⟨trivial, List.forall_mem_cons.mpr ⟨trivial, List.forall_mem_cons.mpr ⟨trivial, List.forall_mem_cons.mpr ⟨trivial, List.forall_mem_cons.mpr ⟨trivial, List.forall_mem_cons.mpr ⟨trivial, List.forall_mem_cons.mpr ⟨trivial, List.forall_mem_cons.mpr ⟨trivial, List.forall_mem_cons.mpr ⟨trivial, List.forall_mem_cons.mpr ⟨trivial, List.forall_mem_cons.mpr ⟨fl_S_42, List.forall_mem_cons.mpr ⟨trivial, List.forall_mem_cons.mpr ⟨trivial, List.forall_mem_cons.mpr ⟨trivial, List.forall_mem_cons.mpr ⟨trivial, List.forall_mem_cons.mpr ⟨trivial, List.forall_mem_cons.mpr ⟨fl_S_20, List.forall_mem_cons.mpr ⟨trivial, List.forall_mem_cons.mpr ⟨trivial, List.forall_mem_cons.mpr ⟨fl_S_134, List.forall_mem_cons.mpr ⟨trivial, List.forall_mem_cons.mpr ⟨trivial, List.forall_mem_cons.mpr ⟨trivial, List.forall_mem_cons.mpr ⟨trivial, List.forall_mem_cons.mpr ⟨fl_S_20, List.forall_mem_cons.mpr ⟨trivial, List.forall_mem_cons.mpr ⟨trivial, List.forall_mem_cons.mpr ⟨fl_S_70, List.forall_mem_cons.mpr ⟨trivial, List.forall_mem_cons.mpr ⟨trivial, List.forall_mem_cons.mpr ⟨trivial, List.forall_mem_cons.mpr ⟨trivial, List.forall_mem_cons.mpr ⟨trivial, List.forall_mem_cons.mpr ⟨trivial, List.forall_mem_cons.mpr ⟨trivial, List.forall_mem_cons.mpr ⟨fl_S_42, List.forall_mem_cons.mpr ⟨trivial, List.forall_mem_cons.mpr ⟨trivial, List.forall_mem_cons.mpr ⟨trivial, List.forall_mem_cons.mpr ⟨trivial, fun _ h => absurd h List.not_mem_nil⟩⟩⟩⟩⟩⟩⟩⟩⟩⟩⟩⟩⟩⟩⟩⟩⟩⟩⟩⟩⟩⟩⟩⟩⟩⟩⟩⟩⟩⟩⟩⟩⟩⟩⟩⟩⟩⟩⟩⟩⟩⟩⟩
theorem cw_S_seen : cl_V M_S_seen 2 := ⟨⟨wd_358, wd_1, ⟨by decide, by decide⟩, by decide +kernel⟩, wd_356, wd_357⟩
def T_S_log : List En := [(0, .iload_n 1, 1, 1, 0, 0), (1, .i2l, 1, 2, 0, 0), (2, .lconst 0, 1, 3, 0, 0), (3, .aload_n 0, 1, 4, 0, 0), (4, .getfield 38, 3, 7, 3, 7), (7, .getfield 80, 3, 10, 1, 5), (10, .iconst 1, 1, 11, 0, 0), (11, .isub, 1, 12, 0, 0), (12, .i2l, 1, 13, 0, 0), (13, .invokestatic 85, 3, 16, 0, 0), (16, .ifCond .ne 5, 3, 19, 21, 0), (19, .iconst (-1), 1, 20, 0, 0), (20, .ireturn, 1, 21, 0, 0), (21, .aload_n 0, 1, 22, 0, 0), (22, .getfield 38, 3, 25, 3, 7), (25, .getfield 189, 3, 28, 1, 4), (28, .iload_n 1, 1, 29, 0, 0), (29, .iaload, 1, 30, 0, 0), (30, .istore_n 3, 1, 31, 0, 0), (31, .iload_n 2, 1, 32, 0, 0), (32, .tableswitch 64 0 3 #[32, 42, 52, 62], 32, 64, 0, 0), (64, .aload_n 0, 1, 65, 0, 0), (65, .getfield 38, 3, 68, 3, 7), (68, .getfield 192, 3, 71, 1, 0), (71, .iload_n 3, 1, 72, 0, 0), (72, .iaload, 1, 73, 0, 0), (73, .ireturn, 1, 74, 0, 0), (74, .aload_n 0, 1, 75, 0, 0), (75, .getfield 38, 3, 78, 3, 7), (78, .getfield 194, 3, 81, 1, 1), (81, .iload_n 3, 1, 82, 0, 0), (82, .iaload, 1, 83, 0, 0), (83, .ireturn, 1, 84, 0, 0), (84, .aload_n 0, 1, 85, 0, 0), (85, .getfield 38, 3, 88, 3, 7), (88, .getfield 196, 3, 91, 1, 2), (91, .iload_n 3, 1, 92, 0, 0), (92, .iaload, 1, 93, 0, 0), (93, .ireturn, 1, 94, 0, 0), (94, .iload_n 3, 1, 95, 0, 0), (95, .ireturn, 1, 96, 0, 0), (96, .iconst (-1), 1, 97, 0, 0), (97, .ireturn, 1, 98, 0, 0)]
def M_S_log : Md := (⟨"SearchGrids", "log", "(II)I"⟩, prog_1_method_22_code, 4, some .int, T_S_log)
theorem ok_S_log : md_ok M_S_log := ⟨by decide +kernel, List.forall_mem_cons.mpr ⟨trivial, List.forall_mem_cons.mpr ⟨trivial, List.forall_mem_cons.mpr ⟨trivial, List.forall_mem_cons.mpr ⟨trivial, List.forall_mem_cons.mpr ⟨fl_S_38, List.forall_mem_cons.mpr ⟨fl_S_80, List.forall_mem_cons.mpr ⟨trivial, List.forall_mem_cons.mpr ⟨trivial, List.forall_mem_cons.mpr ⟨trivial, List.forall_mem_cons.mpr ⟨trivial, List.forall_mem_cons.mpr ⟨trivial, List.forall_mem_cons.mpr ⟨trivial, List.forall_mem_cons.mpr ⟨trivial, List.forall_mem_cons.mpr ⟨trivial, List.forall_mem_cons.mpr ⟨fl_S_38, List.forall_mem_cons.mpr ⟨fl_S_189, List.forall_mem_cons.mpr ⟨trivial, List.forall_mem_cons.mpr ⟨trivial, List.forall_mem_cons.mpr ⟨trivial, List.forall_mem_cons.mpr ⟨trivial, List.forall_mem_cons.mpr ⟨trivial, List.forall_mem_cons.mpr ⟨trivial, List.forall_mem_cons.mpr ⟨fl_S_38, List.forall_mem_cons.mpr ⟨fl_S_192, List.forall_mem_cons.mpr ⟨trivial, List.forall_mem_cons.mpr ⟨trivial, List.forall_mem_cons.mpr ⟨trivial, List.forall_mem_cons.mpr ⟨trivial, List.forall_mem_cons.mpr ⟨fl_S_38, List.forall_mem_cons.mpr ⟨fl_S_194, List.forall_mem_cons.mpr ⟨trivial, List.forall_mem_cons.mpr ⟨trivial, List.forall_mem_cons.mpr ⟨trivial, List.forall_mem_cons.mpr ⟨trivial, List.forall_mem_cons.mpr ⟨fl_S_38, List.forall_mem_cons.mpr ⟨fl_S_196, List.forall_mem_cons.mpr ⟨trivial, List.forall_mem_cons.mpr ⟨trivial, List.forall_mem_cons.mpr ⟨trivial, List.forall_mem_cons.mpr ⟨trivial, List.forall_mem_cons.mpr ⟨trivial, List.forall_mem_cons.mpr ⟨trivial, List.forall_mem_cons.mpr ⟨trivial, fun _ h => absurd h List.not_mem_nil⟩⟩⟩⟩⟩⟩⟩⟩⟩⟩⟩⟩⟩⟩⟩⟩⟩⟩⟩⟩⟩⟩⟩⟩⟩⟩⟩⟩⟩⟩⟩⟩⟩⟩⟩⟩⟩⟩⟩⟩⟩⟩⟩⟩
theorem cw_S_log : cl_V M_S_log 2 := ⟨⟨wd_362, wd_1, ⟨by decide, by decide⟩, by decide +kernel⟩, wd_360, wd_361⟩
def T_S_area : List En := [(0, .aload_n 0, 1, 1, 0, 0), (1, .iload_n 1, 1, 2, 0, 0), (2, .invokevirtual 53, 3, 5, 0, 0), (5, .ifCond .eq 24, 3, 8, 29, 0), (8, .aload_n 0, 1, 9, 0, 0), (9, .getfield 38, 3, 12, 3, 7), (12, .getfield 80, 3, 15, 1, 5), (15, .ifCond .gt 14, 3, 18, 29, 0), (18, .lload_n 2, 1, 19, 0, 0), (19, .lconst 1, 1, 20, 0, 0), (20, .ldc2_w 199, 3, 23, 0, 0), (23, .invokestatic 85, 3, 26, 0, 0), (26, .ifCond .ne 5, 3, 29, 31, 0), (29, .iconst 0, 1, 30, 0, 0), (30, .ireturn, 1, 31, 0, 0), (31, .lload_n 2, 1, 32, 0, 0), (32, .l2i, 1, 33, 0, 0), (33, .istore 4, 2, 35, 0, 0), (35, .sipush 720, 3, 38, 0, 0), (38, .iload 4, 2, 40, 0, 0), (40, .irem, 1, 41, 0, 0), (41, .ifCond .eq 5, 3, 44, 46, 0), (44, .iconst 0, 1, 45, 0, 0), (45, .ireturn, 1, 46, 0, 0), (46, .aload_n 0, 1, 47, 0, 0), (47, .iload_n 1, 1, 48, 0, 0), (48, .invokevirtual 166, 3, 51, 0, 0), (51, .istore 5, 2, 53, 0, 0), (53, .iload 5, 2, 55, 0, 0), (55, .iconst (-1), 1, 56, 0, 0), (56, .if_icmp .ne 5, 3, 59, 61, 0), (59, .iconst 0, 1, 60, 0, 0), (60, .ireturn, 1, 61, 0, 0), (61, .aload_n 0, 1, 62, 0, 0), (62, .getfield 20, 3, 65, 3, 1), (65, .iload 5, 2, 67, 0, 0), (67, .aaload, 1, 68, 0, 0), (68, .iload 4, 2, 70, 0, 0), (70, .putfield 153, 3, 73, 0, 6), (73, .aload_n 0, 1, 74, 0, 0), (74, .getfield 20, 3, 77, 3, 1), (77, .iload 5, 2, 79, 0, 0), (79, .aaload, 1, 80, 0, 0), (80, .sipush 720, 3, 83, 0, 0), (83, .iload 4, 2, 85, 0, 0), (85, .idiv, 1, 86, 0, 0), (86, .putfield 201, 3, 89, 0, 7), (89, .aload_n 0, 1, 90, 0, 0), (90, .invokevirtual 95, 3, 93, 0, 0), (93, .iconst 1, 1, 94, 0, 0), (94, .ireturn, 1, 95, 0, 0)]
def M_S_area : Md := (⟨"SearchGrids", "area", "(IJ)Z"⟩, prog_1_method_23_code, 6, some .boolean, T_S_area)
theorem ok_S_area : md_ok M_S_area := ⟨by decide +kernel, List.forall_mem_cons.mpr ⟨trivial, List.forall_mem_cons.mpr ⟨trivial, List.forall_mem_cons.mpr ⟨trivial, List.forall_mem_cons.mpr ⟨trivial, List.forall_mem_cons.mpr ⟨trivial, List.forall_mem_cons.mpr ⟨fl_S_38, List.forall_mem_cons.mpr ⟨fl_S_80, List.forall_mem_cons.mpr ⟨trivial, List.forall_mem_cons.mpr ⟨trivial, List.forall_mem_cons.mpr ⟨trivial, List.forall_mem_cons.mpr ⟨trivial, List.forall_mem_cons.mpr ⟨trivial, List.forall_mem_cons.mpr ⟨trivial, List.forall_mem_cons.mpr ⟨trivial, List.forall_mem_cons.mpr ⟨trivial, List.forall_mem_cons.mpr ⟨trivial, List.forall_mem_cons.mpr ⟨trivial, List.forall_mem_cons.mpr ⟨trivial, List.forall_mem_cons.mpr ⟨trivial, List.forall_mem_cons.mpr ⟨trivial, List.forall_mem_cons.mpr ⟨trivial, List.forall_mem_cons.mpr ⟨trivial, List.forall_mem_cons.mpr ⟨trivial, List.forall_mem_cons.mpr ⟨trivial, List.forall_mem_cons.mpr ⟨trivial, List.forall_mem_cons.mpr ⟨trivial, List.forall_mem_cons.mpr ⟨trivial, List.forall_mem_cons.mpr ⟨trivial, List.forall_mem_cons.mpr ⟨trivial, List.forall_mem_cons.mpr ⟨trivial, List.forall_mem_cons.mpr ⟨trivial, List.forall_mem_cons.mpr ⟨trivial, List.forall_mem_cons.mpr ⟨trivial, List.forall_mem_cons.mpr ⟨trivial, List.forall_mem_cons.mpr ⟨fl_S_20, List.forall_mem_cons.mpr ⟨trivial, List.forall_mem_cons.mpr ⟨trivial, List.forall_mem_cons.mpr ⟨trivial, List.forall_mem_cons.mpr ⟨fl_S_153, List.forall_mem_cons.mpr ⟨trivial, List.forall_mem_cons.mpr ⟨fl_S_20, List.forall_mem_cons.mpr ⟨trivial, List.forall_mem_cons.mpr ⟨trivial, List.forall_mem_cons.mpr ⟨trivial, List.forall_mem_cons.mpr ⟨trivial, List.forall_mem_cons.mpr ⟨trivial, List.forall_mem_cons.mpr ⟨fl_S_201, List.forall_mem_cons.mpr ⟨trivial, List.forall_mem_cons.mpr ⟨trivial, List.forall_mem_cons.mpr ⟨trivial, List.forall_mem_cons.mpr ⟨trivial, fun _ h => absurd h List.not_mem_nil⟩⟩⟩⟩⟩⟩⟩⟩⟩⟩⟩⟩⟩⟩⟩⟩⟩⟩⟩⟩⟩⟩⟩⟩⟩⟩⟩⟩⟩⟩⟩⟩⟩⟩⟩⟩⟩⟩⟩⟩⟩⟩⟩⟩⟩⟩⟩⟩⟩⟩⟩⟩
theorem cw_S_area : cl_V M_S_area 2 := ⟨⟨wd_366, wd_1, ⟨by decide, by decide⟩, by decide +kernel⟩, wd_364, wd_365⟩
def T_S_isCell : List En := [(0, .iload_n 1, 1, 1, 0, 0), (1, .ifCond .lt 15, 3, 4, 16, 0), (4, .iload_n 1, 1, 5, 0, 0), (5, .aload_n 0, 1, 6, 0, 0), (6, .getfield 10, 3, 9, 3, 0), (9, .if_icmp .ge 7, 3, 12, 16, 0), (12, .iconst 1, 1, 13, 0, 0), (13, .goto 4, 3, 16, 17, 0), (16, .iconst 0, 1, 17, 0, 0), (17, .ireturn, 1, 18, 0, 0)]
def M_S_isCell : Md := (⟨"SearchGrids", "isCell", "(I)Z"⟩, prog_1_method_24_code, 2, some .boolean, T_S_isCell)
theorem ok_S_isCell : md_ok M_S_isCell := ⟨by decide +kernel, List.forall_mem_cons.mpr ⟨trivial, List.forall_mem_cons.mpr ⟨trivial, List.forall_mem_cons.mpr ⟨trivial, List.forall_mem_cons.mpr ⟨trivial, List.forall_mem_cons.mpr ⟨fl_S_10, List.forall_mem_cons.mpr ⟨trivial, List.forall_mem_cons.mpr ⟨trivial, List.forall_mem_cons.mpr ⟨trivial, List.forall_mem_cons.mpr ⟨trivial, List.forall_mem_cons.mpr ⟨trivial, fun _ h => absurd h List.not_mem_nil⟩⟩⟩⟩⟩⟩⟩⟩⟩⟩⟩
theorem cw_S_isCell : cl_V M_S_isCell 1 := ⟨⟨wd_167, wd_1, ⟨by decide, by decide⟩, by decide +kernel⟩, wd_166, sl_0⟩
def T_S_isLooker : List En := [(0, .iload_n 1, 1, 1, 0, 0), (1, .ifCond .lt 15, 3, 4, 16, 0), (4, .iload_n 1, 1, 5, 0, 0), (5, .aload_n 0, 1, 6, 0, 0), (6, .getfield 77, 3, 9, 3, 4), (9, .if_icmp .ge 7, 3, 12, 16, 0), (12, .iconst 1, 1, 13, 0, 0), (13, .goto 4, 3, 16, 17, 0), (16, .iconst 0, 1, 17, 0, 0), (17, .ireturn, 1, 18, 0, 0)]
def M_S_isLooker : Md := (⟨"SearchGrids", "isLooker", "(I)Z"⟩, prog_1_method_25_code, 2, some .boolean, T_S_isLooker)
theorem ok_S_isLooker : md_ok M_S_isLooker := ⟨by decide +kernel, List.forall_mem_cons.mpr ⟨trivial, List.forall_mem_cons.mpr ⟨trivial, List.forall_mem_cons.mpr ⟨trivial, List.forall_mem_cons.mpr ⟨trivial, List.forall_mem_cons.mpr ⟨fl_S_77, List.forall_mem_cons.mpr ⟨trivial, List.forall_mem_cons.mpr ⟨trivial, List.forall_mem_cons.mpr ⟨trivial, List.forall_mem_cons.mpr ⟨trivial, List.forall_mem_cons.mpr ⟨trivial, fun _ h => absurd h List.not_mem_nil⟩⟩⟩⟩⟩⟩⟩⟩⟩⟩⟩
theorem cw_S_isLooker : cl_V M_S_isLooker 1 := ⟨⟨wd_215, wd_1, ⟨by decide, by decide⟩, by decide +kernel⟩, wd_214, sl_6⟩
def T_S_isZeroOrOne : List En := [(0, .iload_n 0, 1, 1, 0, 0), (1, .ifCond .eq 8, 3, 4, 9, 0), (4, .iload_n 0, 1, 5, 0, 0), (5, .iconst 1, 1, 6, 0, 0), (6, .if_icmp .ne 7, 3, 9, 13, 0), (9, .iconst 1, 1, 10, 0, 0), (10, .goto 4, 3, 13, 14, 0), (13, .iconst 0, 1, 14, 0, 0), (14, .ireturn, 1, 15, 0, 0)]
def M_S_isZeroOrOne : Md := (⟨"SearchGrids", "isZeroOrOne", "(I)Z"⟩, prog_1_method_26_code, 1, some .boolean, T_S_isZeroOrOne)
theorem ok_S_isZeroOrOne : md_ok M_S_isZeroOrOne := ⟨by decide +kernel, List.forall_mem_cons.mpr ⟨trivial, List.forall_mem_cons.mpr ⟨trivial, List.forall_mem_cons.mpr ⟨trivial, List.forall_mem_cons.mpr ⟨trivial, List.forall_mem_cons.mpr ⟨trivial, List.forall_mem_cons.mpr ⟨trivial, List.forall_mem_cons.mpr ⟨trivial, List.forall_mem_cons.mpr ⟨trivial, List.forall_mem_cons.mpr ⟨trivial, fun _ h => absurd h List.not_mem_nil⟩⟩⟩⟩⟩⟩⟩⟩⟩⟩
theorem cw_S_isZeroOrOne : cl_S M_S_isZeroOrOne 1 := ⟨⟨wd_187, wd_1, ⟨by decide, by decide⟩, by decide +kernel⟩, wd_186⟩
def T_S_isWithin : List En := [(0, .lload_n 0, 1, 1, 0, 0), (1, .lload_n 2, 1, 2, 0, 0), (2, .lcmp, 1, 3, 0, 0), (3, .ifCond .lt 14, 3, 6, 17, 0), (6, .lload_n 0, 1, 7, 0, 0), (7, .lload 4, 2, 9, 0, 0), (9, .lcmp, 1, 10, 0, 0), (10, .ifCond .gt 7, 3, 13, 17, 0), (13, .iconst 1, 1, 14, 0, 0), (14, .goto 4, 3, 17, 18, 0), (17, .iconst 0, 1, 18, 0, 0), (18, .ireturn, 1, 19, 0, 0)]
def M_S_isWithin : Md := (⟨"SearchGrids", "isWithin", "(JJJ)Z"⟩, prog_1_method_27_code, 6, some .boolean, T_S_isWithin)
theorem ok_S_isWithin : md_ok M_S_isWithin := ⟨by decide +kernel, List.forall_mem_cons.mpr ⟨trivial, List.forall_mem_cons.mpr ⟨trivial, List.forall_mem_cons.mpr ⟨trivial, List.forall_mem_cons.mpr ⟨trivial, List.forall_mem_cons.mpr ⟨trivial, List.forall_mem_cons.mpr ⟨trivial, List.forall_mem_cons.mpr ⟨trivial, List.forall_mem_cons.mpr ⟨trivial, List.forall_mem_cons.mpr ⟨trivial, List.forall_mem_cons.mpr ⟨trivial, List.forall_mem_cons.mpr ⟨trivial, List.forall_mem_cons.mpr ⟨trivial, fun _ h => absurd h List.not_mem_nil⟩⟩⟩⟩⟩⟩⟩⟩⟩⟩⟩⟩⟩
theorem cw_S_isWithin : cl_S M_S_isWithin 3 := ⟨⟨wd_163, wd_1, ⟨by decide, by decide⟩, by decide +kernel⟩, wd_162⟩
def T_S_placeOf : List En := [(0, .iconst 0, 1, 1, 0, 0), (1, .istore_n 2, 1, 2, 0, 0), (2, .iload_n 2, 1, 3, 0, 0), (3, .aload_n 0, 1, 4, 0, 0), (4, .getfield 109, 3, 7, 3, 2), (7, .if_icmp .ge 24, 3, 10, 31, 0), (10, .aload_n 0, 1, 11, 0, 0), (11, .getfield 20, 3, 14, 3, 1), (14, .iload_n 2, 1, 15, 0, 0), (15, .aaload, 1, 16, 0, 0), (16, .getfield 186, 3, 19, 0, 5), (19, .iload_n 1, 1, 20, 0, 0), (20, .if_icmp .ne 5, 3, 23, 25, 0), (23, .iload_n 2, 1, 24, 0, 0), (24, .ireturn, 1, 25, 0, 0), (25, .iinc 2 1, 3, 28, 0, 0), (28, .goto (-26), 3, 31, 2, 0), (31, .iconst (-1), 1, 32, 0, 0), (32, .ireturn, 1, 33, 0, 0)]
def M_S_placeOf : Md := (⟨"SearchGrids", "placeOf", "(I)I"⟩, prog_1_method_28_code, 3, some .int, T_S_placeOf)
theorem ok_S_placeOf : md_ok M_S_placeOf := ⟨by decide +kernel, List.forall_mem_cons.mpr ⟨trivial, List.forall_mem_cons.mpr ⟨trivial, List.forall_mem_cons.mpr ⟨trivial, List.forall_mem_cons.mpr ⟨trivial, List.forall_mem_cons.mpr ⟨fl_S_109, List.forall_mem_cons.mpr ⟨trivial, List.forall_mem_cons.mpr ⟨trivial, List.forall_mem_cons.mpr ⟨fl_S_20, List.forall_mem_cons.mpr ⟨trivial, List.forall_mem_cons.mpr ⟨trivial, List.forall_mem_cons.mpr ⟨fl_S_186, List.forall_mem_cons.mpr ⟨trivial, List.forall_mem_cons.mpr ⟨trivial, List.forall_mem_cons.mpr ⟨trivial, List.forall_mem_cons.mpr ⟨trivial, List.forall_mem_cons.mpr ⟨trivial, List.forall_mem_cons.mpr ⟨trivial, List.forall_mem_cons.mpr ⟨trivial, List.forall_mem_cons.mpr ⟨trivial, fun _ h => absurd h List.not_mem_nil⟩⟩⟩⟩⟩⟩⟩⟩⟩⟩⟩⟩⟩⟩⟩⟩⟩⟩⟩⟩
theorem cw_S_placeOf : cl_V M_S_placeOf 1 := ⟨⟨wd_176, wd_1, ⟨by decide, by decide⟩, by decide +kernel⟩, wd_175, sl_2⟩
def T_S_tellOf : List En := [(0, .aload_n 0, 1, 1, 0, 0), (1, .iload_n 1, 1, 2, 0, 0), (2, .invokevirtual 66, 3, 5, 0, 0), (5, .istore_n 2, 1, 6, 0, 0), (6, .iload_n 2, 1, 7, 0, 0), (7, .iconst (-1), 1, 8, 0, 0), (8, .if_icmp .ne 12, 3, 11, 20, 0), (11, .aload_n 0, 1, 12, 0, 0), (12, .getfield 109, 3, 15, 3, 2), (15, .bipush 40, 2, 17, 0, 0), (17, .if_icmp .lt 5, 3, 20, 22, 0), (20, .iload_n 2, 1, 21, 0, 0), (21, .ireturn, 1, 22, 0, 0), (22, .aload_n 0, 1, 23, 0, 0), (23, .getfield 20, 3, 26, 3, 1), (26, .aload_n 0, 1, 27, 0, 0), (27, .getfield 109, 3, 30, 3, 2), (30, .aaload, 1, 31, 0, 0), (31, .astore_n 3, 1, 32, 0, 0), (32, .aload_n 3, 1, 33, 0, 0), (33, .iload_n 1, 1, 34, 0, 0), (34, .putfield 186, 3, 37, 0, 5), (37, .aload_n 0, 1, 38, 0, 0), (38, .getfield 109, 3, 41, 3, 2), (41, .istore_n 2, 1, 42, 0, 0), (42, .iload_n 2, 1, 43, 0, 0), (43, .ifCond .le 38, 3, 46, 81, 0), (46, .aload_n 0, 1, 47, 0, 0), (47, .getfield 20, 3, 50, 3, 1), (50, .iload_n 2, 1, 51, 0, 0), (51, .iconst 1, 1, 52, 0, 0), (52, .isub, 1, 53, 0, 0), (53, .aaload, 1, 54, 0, 0), (54, .getfield 186, 3, 57, 0, 5), (57, .iload_n 1, 1, 58, 0, 0), (58, .if_icmp .le 23, 3, 61, 81, 0), (61, .aload_n 0, 1, 62, 0, 0), (62, .getfield 20, 3, 65, 3, 1), (65, .iload_n 2, 1, 66, 0, 0), (66, .aload_n 0, 1, 67, 0, 0), (67, .getfield 20, 3, 70, 3, 1), (70, .iload_n 2, 1, 71, 0, 0), (71, .iconst 1, 1, 72, 0, 0), (72, .isub, 1, 73, 0, 0), (73, .aaload, 1, 74, 0, 0), (74, .aastore, 1, 75, 0, 0), (75, .iinc 2 (-1), 3, 78, 0, 0), (78, .goto (-36), 3, 81, 42, 0), (81, .aload_n 0, 1, 82, 0, 0), (82, .getfield 20, 3, 85, 3, 1), (85, .iload_n 2, 1, 86, 0, 0), (86, .aload_n 3, 1, 87, 0, 0), (87, .aastore, 1, 88, 0, 0), (88, .aload_n 0, 1, 89, 0, 0), (89, .dup, 1, 90, 0, 0), (90, .getfield 109, 3, 93, 3, 2), (93, .iconst 1, 1, 94, 0, 0), (94, .iadd, 1, 95, 0, 0), (95, .putfield 109, 3, 98, 3, 2), (98, .iload_n 2, 1, 99, 0, 0), (99, .ireturn, 1, 100, 0, 0)]
def M_S_tellOf : Md := (⟨"SearchGrids", "tellOf", "(I)I"⟩, prog_1_method_29_code, 4, some .int, T_S_tellOf)
theorem ok_S_tellOf : md_ok M_S_tellOf := ⟨by decide +kernel, List.forall_mem_cons.mpr ⟨trivial, List.forall_mem_cons.mpr ⟨trivial, List.forall_mem_cons.mpr ⟨trivial, List.forall_mem_cons.mpr ⟨trivial, List.forall_mem_cons.mpr ⟨trivial, List.forall_mem_cons.mpr ⟨trivial, List.forall_mem_cons.mpr ⟨trivial, List.forall_mem_cons.mpr ⟨trivial, List.forall_mem_cons.mpr ⟨fl_S_109, List.forall_mem_cons.mpr ⟨trivial, List.forall_mem_cons.mpr ⟨trivial, List.forall_mem_cons.mpr ⟨trivial, List.forall_mem_cons.mpr ⟨trivial, List.forall_mem_cons.mpr ⟨trivial, List.forall_mem_cons.mpr ⟨fl_S_20, List.forall_mem_cons.mpr ⟨trivial, List.forall_mem_cons.mpr ⟨fl_S_109, List.forall_mem_cons.mpr ⟨trivial, List.forall_mem_cons.mpr ⟨trivial, List.forall_mem_cons.mpr ⟨trivial, List.forall_mem_cons.mpr ⟨trivial, List.forall_mem_cons.mpr ⟨fl_S_186, List.forall_mem_cons.mpr ⟨trivial, List.forall_mem_cons.mpr ⟨fl_S_109, List.forall_mem_cons.mpr ⟨trivial, List.forall_mem_cons.mpr ⟨trivial, List.forall_mem_cons.mpr ⟨trivial, List.forall_mem_cons.mpr ⟨trivial, List.forall_mem_cons.mpr ⟨fl_S_20, List.forall_mem_cons.mpr ⟨trivial, List.forall_mem_cons.mpr ⟨trivial, List.forall_mem_cons.mpr ⟨trivial, List.forall_mem_cons.mpr ⟨trivial, List.forall_mem_cons.mpr ⟨fl_S_186, List.forall_mem_cons.mpr ⟨trivial, List.forall_mem_cons.mpr ⟨trivial, List.forall_mem_cons.mpr ⟨trivial, List.forall_mem_cons.mpr ⟨fl_S_20, List.forall_mem_cons.mpr ⟨trivial, List.forall_mem_cons.mpr ⟨trivial, List.forall_mem_cons.mpr ⟨fl_S_20, List.forall_mem_cons.mpr ⟨trivial, List.forall_mem_cons.mpr ⟨trivial, List.forall_mem_cons.mpr ⟨trivial, List.forall_mem_cons.mpr ⟨trivial, List.forall_mem_cons.mpr ⟨trivial, List.forall_mem_cons.mpr ⟨trivial, List.forall_mem_cons.mpr ⟨trivial, List.forall_mem_cons.mpr ⟨trivial, List.forall_mem_cons.mpr ⟨fl_S_20, List.forall_mem_cons.mpr ⟨trivial, List.forall_mem_cons.mpr ⟨trivial, List.forall_mem_cons.mpr ⟨trivial, List.forall_mem_cons.mpr ⟨trivial, List.forall_mem_cons.mpr ⟨trivial, List.forall_mem_cons.mpr ⟨fl_S_109, List.forall_mem_cons.mpr ⟨trivial, List.forall_mem_cons.mpr ⟨trivial, List.forall_mem_cons.mpr ⟨fl_S_109, List.forall_mem_cons.mpr ⟨trivial, List.forall_mem_cons.mpr ⟨trivial, fun _ h => absurd h List.not_mem_nil⟩⟩⟩⟩⟩⟩⟩⟩⟩⟩⟩⟩⟩⟩⟩⟩⟩⟩⟩⟩⟩⟩⟩⟩⟩⟩⟩⟩⟩⟩⟩⟩⟩⟩⟩⟩⟩⟩⟩⟩⟩⟩⟩⟩⟩⟩⟩⟩⟩⟩⟩⟩⟩⟩⟩⟩⟩⟩⟩⟩⟩⟩
theorem cw_S_tellOf : cl_V M_S_tellOf 1 := ⟨⟨wd_172, wd_1, ⟨by decide, by decide⟩, by decide +kernel⟩, wd_171, sl_1⟩
def T_S_allCounts : List En := [(0, .lconst 0, 1, 1, 0, 0), (1, .lstore_n 1, 1, 2, 0, 0), (2, .iconst 0, 1, 3, 0, 0), (3, .istore_n 3, 1, 4, 0, 0), (4, .iload_n 3, 1, 5, 0, 0), (5, .aload_n 0, 1, 6, 0, 0), (6, .getfield 109, 3, 9, 3, 2), (9, .if_icmp .ge 24, 3, 12, 33, 0), (12, .lload_n 1, 1, 13, 0, 0), (13, .aload_n 0, 1, 14, 0, 0), (14, .getfield 20, 3, 17, 3, 1), (17, .iload_n 3, 1, 18, 0, 0), (18, .aaload, 1, 19, 0, 0), (19, .getfield 70, 3, 22, 0, 0), (22, .iconst 0, 1, 23, 0, 0), (23, .iaload, 1, 24, 0, 0), (24, .i2l, 1, 25, 0, 0), (25, .ladd, 1, 26, 0, 0), (26, .lstore_n 1, 1, 27, 0, 0), (27, .iinc 3 1, 3, 30, 0, 0), (30, .goto (-26), 3, 33, 4, 0), (33, .lload_n 1, 1, 34, 0, 0), (34, .lreturn, 1, 35, 0, 0)]
def M_S_allCounts : Md := (⟨"SearchGrids", "allCounts", "()J"⟩, prog_1_method_30_code, 4, some .long, T_S_allCounts)
theorem ok_S_allCounts : md_ok M_S_allCounts := ⟨by decide +kernel, List.forall_mem_cons.mpr ⟨trivial, List.forall_mem_cons.mpr ⟨trivial, List.forall_mem_cons.mpr ⟨trivial, List.forall_mem_cons.mpr ⟨trivial, List.forall_mem_cons.mpr ⟨trivial, List.forall_mem_cons.mpr ⟨trivial, List.forall_mem_cons.mpr ⟨fl_S_109, List.forall_mem_cons.mpr ⟨trivial, List.forall_mem_cons.mpr ⟨trivial, List.forall_mem_cons.mpr ⟨trivial, List.forall_mem_cons.mpr ⟨fl_S_20, List.forall_mem_cons.mpr ⟨trivial, List.forall_mem_cons.mpr ⟨trivial, List.forall_mem_cons.mpr ⟨fl_S_70, List.forall_mem_cons.mpr ⟨trivial, List.forall_mem_cons.mpr ⟨trivial, List.forall_mem_cons.mpr ⟨trivial, List.forall_mem_cons.mpr ⟨trivial, List.forall_mem_cons.mpr ⟨trivial, List.forall_mem_cons.mpr ⟨trivial, List.forall_mem_cons.mpr ⟨trivial, List.forall_mem_cons.mpr ⟨trivial, List.forall_mem_cons.mpr ⟨trivial, fun _ h => absurd h List.not_mem_nil⟩⟩⟩⟩⟩⟩⟩⟩⟩⟩⟩⟩⟩⟩⟩⟩⟩⟩⟩⟩⟩⟩⟩⟩
theorem cw_S_allCounts : cl_V M_S_allCounts 0 := ⟨⟨wd_198, wd_1, ⟨by decide, by decide⟩, by decide +kernel⟩, wd_197, sl_4⟩
def T_S_allRemains : List En := [(0, .lconst 0, 1, 1, 0, 0), (1, .lstore_n 1, 1, 2, 0, 0), (2, .iconst 0, 1, 3, 0, 0), (3, .istore_n 3, 1, 4, 0, 0), (4, .iload_n 3, 1, 5, 0, 0), (5, .aload_n 0, 1, 6, 0, 0), (6, .getfield 109, 3, 9, 3, 2), (9, .if_icmp .ge 25, 3, 12, 34, 0), (12, .lload_n 1, 1, 13, 0, 0), (13, .aload_n 0, 1, 14, 0, 0), (14, .getfield 20, 3, 17, 3, 1), (17, .iload_n 3, 1, 18, 0, 0), (18, .aaload, 1, 19, 0, 0), (19, .aload_n 0, 1, 20, 0, 0), (20, .getfield 14, 3, 23, 3, 5), (23, .invokevirtual 141, 3, 26, 0, 0), (26, .ladd, 1, 27, 0, 0), (27, .lstore_n 1, 1, 28, 0, 0), (28, .iinc 3 1, 3, 31, 0, 0), (31, .goto (-27), 3, 34, 4, 0), (34, .lload_n 1, 1, 35, 0, 0), (35, .lreturn, 1, 36, 0, 0)]
def M_S_allRemains : Md := (⟨"SearchGrids", "allRemains", "()J"⟩, prog_1_method_31_code, 4, some .long, T_S_allRemains)
theorem ok_S_allRemains : md_ok M_S_allRemains := ⟨by decide +kernel, List.forall_mem_cons.mpr ⟨trivial, List.forall_mem_cons.mpr ⟨trivial, List.forall_mem_cons.mpr ⟨trivial, List.forall_mem_cons.mpr ⟨trivial, List.forall_mem_cons.mpr ⟨trivial, List.forall_mem_cons.mpr ⟨trivial, List.forall_mem_cons.mpr ⟨fl_S_109, List.forall_mem_cons.mpr ⟨trivial, List.forall_mem_cons.mpr ⟨trivial, List.forall_mem_cons.mpr ⟨trivial, List.forall_mem_cons.mpr ⟨fl_S_20, List.forall_mem_cons.mpr ⟨trivial, List.forall_mem_cons.mpr ⟨trivial, List.forall_mem_cons.mpr ⟨trivial, List.forall_mem_cons.mpr ⟨fl_S_14, List.forall_mem_cons.mpr ⟨trivial, List.forall_mem_cons.mpr ⟨trivial, List.forall_mem_cons.mpr ⟨trivial, List.forall_mem_cons.mpr ⟨trivial, List.forall_mem_cons.mpr ⟨trivial, List.forall_mem_cons.mpr ⟨trivial, List.forall_mem_cons.mpr ⟨trivial, fun _ h => absurd h List.not_mem_nil⟩⟩⟩⟩⟩⟩⟩⟩⟩⟩⟩⟩⟩⟩⟩⟩⟩⟩⟩⟩⟩⟩⟩
theorem cw_S_allRemains : cl_V M_S_allRemains 0 := ⟨⟨wd_298, wd_1, ⟨by decide, by decide⟩, by decide +kernel⟩, wd_297, sl_19⟩
def T_S_dropPlan : List En := [(0, .iconst 0, 1, 1, 0, 0), (1, .istore_n 1, 1, 2, 0, 0), (2, .iload_n 1, 1, 3, 0, 0), (3, .aload_n 0, 1, 4, 0, 0), (4, .getfield 109, 3, 7, 3, 2), (7, .if_icmp .ge 34, 3, 10, 41, 0), (10, .iconst 0, 1, 11, 0, 0), (11, .istore_n 2, 1, 12, 0, 0), (12, .iload_n 2, 1, 13, 0, 0), (13, .iconst 4, 1, 14, 0, 0), (14, .if_icmp .ge 21, 3, 17, 35, 0), (17, .aload_n 0, 1, 18, 0, 0), (18, .getfield 20, 3, 21, 3, 1), (21, .iload_n 1, 1, 22, 0, 0), (22, .aaload, 1, 23, 0, 0), (23, .getfield 120, 3, 26, 0, 1), (26, .iload_n 2, 1, 27, 0, 0), (27, .iconst 0, 1, 28, 0, 0), (28, .iastore, 1, 29, 0, 0), (29, .iinc 2 1, 3, 32, 0, 0), (32, .goto (-20), 3, 35, 12, 0), (35, .iinc 1 1, 3, 38, 0, 0), (38, .goto (-36), 3, 41, 2, 0), (41, .iconst 0, 1, 42, 0, 0), (42, .istore_n 1, 1, 43, 0, 0), (43, .iload_n 1, 1, 44, 0, 0), (44, .iconst 4, 1, 45, 0, 0), (45, .if_icmp .ge 19, 3, 48, 64, 0), (48, .aload_n 0, 1, 49, 0, 0), (49, .getfield 27, 3, 52, 3, 3), (52, .iload_n 1, 1, 53, 0, 0), (53, .aaload, 1, 54, 0, 0), (54, .iconst 0, 1, 55, 0, 0), (55, .putfield 204, 3, 58, 2, 3), (58, .iinc 1 1, 3, 61, 0, 0), (61, .goto (-18), 3, 64, 43, 0), (64, .return_, 1, 65, 0, 0)]
def M_S_dropPlan : Md := (⟨"SearchGrids", "dropPlan", "()V"⟩, prog_1_method_32_code, 3, none, T_S_dropPlan)
theorem ok_S_dropPlan : md_ok M_S_dropPlan := ⟨by decide +kernel, List.forall_mem_cons.mpr ⟨trivial, List.forall_mem_cons.mpr ⟨trivial, List.forall_mem_cons.mpr ⟨trivial, List.forall_mem_cons.mpr ⟨trivial, List.forall_mem_cons.mpr ⟨fl_S_109, List.forall_mem_cons.mpr ⟨trivial, List.forall_mem_cons.mpr ⟨trivial, List.forall_mem_cons.mpr ⟨trivial, List.forall_mem_cons.mpr ⟨trivial, List.forall_mem_cons.mpr ⟨trivial, List.forall_mem_cons.mpr ⟨trivial, List.forall_mem_cons.mpr ⟨trivial, List.forall_mem_cons.mpr ⟨fl_S_20, List.forall_mem_cons.mpr ⟨trivial, List.forall_mem_cons.mpr ⟨trivial, List.forall_mem_cons.mpr ⟨fl_S_120, List.forall_mem_cons.mpr ⟨trivial, List.forall_mem_cons.mpr ⟨trivial, List.forall_mem_cons.mpr ⟨trivial, List.forall_mem_cons.mpr ⟨trivial, List.forall_mem_cons.mpr ⟨trivial, List.forall_mem_cons.mpr ⟨trivial, List.forall_mem_cons.mpr ⟨trivial, List.forall_mem_cons.mpr ⟨trivial, List.forall_mem_cons.mpr ⟨trivial, List.forall_mem_cons.mpr ⟨trivial, List.forall_mem_cons.mpr ⟨trivial, List.forall_mem_cons.mpr ⟨trivial, List.forall_mem_cons.mpr ⟨trivial, List.forall_mem_cons.mpr ⟨fl_S_27, List.forall_mem_cons.mpr ⟨trivial, List.forall_mem_cons.mpr ⟨trivial, List.forall_mem_cons.mpr ⟨trivial, List.forall_mem_cons.mpr ⟨fl_S_204, List.forall_mem_cons.mpr ⟨trivial, List.forall_mem_cons.mpr ⟨trivial, List.forall_mem_cons.mpr ⟨trivial, fun _ h => absurd h List.not_mem_nil⟩⟩⟩⟩⟩⟩⟩⟩⟩⟩⟩⟩⟩⟩⟩⟩⟩⟩⟩⟩⟩⟩⟩⟩⟩⟩⟩⟩⟩⟩⟩⟩⟩⟩⟩⟩⟩⟩
theorem cw_S_dropPlan : cl_V M_S_dropPlan 0 := ⟨⟨wd_180, wd_1, ⟨by decide, by decide⟩, by decide +kernel⟩, wd_179, sl_3⟩
def T_S_giveBestHour : List En := [(0, .lconst 0, 1, 1, 0, 0), (1, .lstore_n 1, 1, 2, 0, 0), (2, .iconst (-1), 1, 3, 0, 0), (3, .istore_n 3, 1, 4, 0, 0), (4, .iconst (-1), 1, 5, 0, 0), (5, .istore 4, 2, 7, 0, 0), (7, .iconst 0, 1, 8, 0, 0), (8, .istore 5, 2, 10, 0, 0), (10, .iload 5, 2, 12, 0, 0), (12, .aload_n 0, 1, 13, 0, 0), (13, .getfield 77, 3, 16, 3, 4), (16, .if_icmp .ge 101, 3, 19, 117, 0), (19, .aload_n 0, 1, 20, 0, 0), (20, .getfield 27, 3, 23, 3, 3), (23, .iload 5, 2, 25, 0, 0), (25, .aaload, 1, 26, 0, 0), (26, .getfield 204, 3, 29, 2, 3), (29, .aload_n 0, 1, 30, 0, 0), (30, .getfield 27, 3, 33, 3, 3), (33, .iload 5, 2, 35, 0, 0), (35, .aaload, 1, 36, 0, 0), (36, .getfield 207, 3, 39, 2, 2), (39, .if_icmp .ge 7, 3, 42, 46, 0), (42, .iconst 1, 1, 43, 0, 0), (43, .goto 4, 3, 46, 47, 0), (46, .iconst 0, 1, 47, 0, 0), (47, .istore 6, 2, 49, 0, 0), (49, .iconst 0, 1, 50, 0, 0), (50, .istore 7, 2, 52, 0, 0), (52, .iload 6, 2, 54, 0, 0), (54, .ifCond .eq 57, 3, 57, 111, 0), (57, .iload 7, 2, 59, 0, 0), (59, .aload_n 0, 1, 60, 0, 0), (60, .getfield 109, 3, 63, 3, 2), (63, .if_icmp .ge 48, 3, 66, 111, 0), (66, .aload_n 0, 1, 67, 0, 0), (67, .getfield 20, 3, 70, 3, 1), (70, .iload 7, 2, 72, 0, 0), (72, .aaload, 1, 73, 0, 0), (73, .getfield 210, 3, 76, 0, 4), (76, .iload 5, 2, 78, 0, 0), (78, .laload, 1, 79, 0, 0), (79, .lload_n 1, 1, 80, 0, 0), (80, .lcmp, 1, 81, 0, 0), (81, .ifCond .le 24, 3, 84, 105, 0), (84, .aload_n 0, 1, 85, 0, 0), (85, .getfield 20, 3, 88, 3, 1), (88, .iload 7, 2, 90, 0, 0), (90, .aaload, 1, 91, 0, 0), (91, .getfield 210, 3, 94, 0, 4), (94, .iload 5, 2, 96, 0, 0), (96, .laload, 1, 97, 0, 0), (97, .lstore_n 1, 1, 98, 0, 0), (98, .iload 5, 2, 100, 0, 0), (100, .istore_n 3, 1, 101, 0, 0), (101, .iload 7, 2, 103, 0, 0), (103, .istore 4, 2, 105, 0, 0), (105, .iinc 7 1, 3, 108, 0, 0), (108, .goto (-56), 3, 111, 52, 0), (111, .iinc 5 1, 3, 114, 0, 0), (114, .goto (-104), 3, 117, 10, 0), (117, .iload_n 3, 1, 118, 0, 0), (118, .iconst (-1), 1, 119, 0, 0), (119, .if_icmp .eq 9, 3, 122, 128, 0), (122, .iload 4, 2, 124, 0, 0), (124, .iconst (-1), 1, 125, 0, 0), (125, .if_icmp .ne 5, 3, 128, 130, 0), (128, .iconst 0, 1, 129, 0, 0), (129, .ireturn, 1, 130, 0, 0), (130, .aload_n 0, 1, 131, 0, 0), (131, .getfield 20, 3, 134, 3, 1), (134, .iload 4, 2, 136, 0, 0), (136, .aaload, 1, 137, 0, 0), (137, .getfield 120, 3, 140, 0, 1), (140, .iload_n 3, 1, 141, 0, 0), (141, .dup2, 1, 142, 0, 0), (142, .iaload, 1, 143, 0, 0), (143, .iconst 1, 1, 144, 0, 0), (144, .iadd, 1, 145, 0, 0), (145, .iastore, 1, 146, 0, 0), (146, .aload_n 0, 1, 147, 0, 0), (147, .getfield 27, 3, 150, 3, 3), (150, .iload_n 3, 1, 151, 0, 0), (151, .aaload, 1, 152, 0, 0), (152, .dup, 1, 153, 0, 0), (153, .getfield 204, 3, 156, 2, 3), (156, .iconst 1, 1, 157, 0, 0), (157, .iadd, 1, 158, 0, 0), (158, .putfield 204, 3, 161, 2, 3), (161, .aload_n 0, 1, 162, 0, 0), (162, .getfield 20, 3, 165, 3, 1), (165, .iload 4, 2, 167, 0, 0), (167, .aaload, 1, 168, 0, 0), (168, .aload_n 0, 1, 169, 0, 0), (169, .getfield 14, 3, 172, 3, 5), (172, .invokevirtual 112, 3, 175, 0, 0), (175, .iconst 1, 1, 176, 0, 0), (176, .ireturn, 1, 177, 0, 0)]
def M_S_giveBestHour : Md := (⟨"SearchGrids", "giveBestHour", "()Z"⟩, prog_1_method_33_code, 8, some .boolean, T_S_giveBestHour)
theorem ok_S_giveBestHour : md_ok M_S_giveBestHour := ⟨by decide +kernel, List.forall_mem_cons.mpr ⟨trivial, List.forall_mem_cons.mpr ⟨trivial, List.forall_mem_cons.mpr ⟨trivial, List.forall_mem_cons.mpr ⟨trivial, List.forall_mem_cons.mpr ⟨trivial, List.forall_mem_cons.mpr ⟨trivial, List.forall_mem_cons.mpr ⟨trivial, List.forall_mem_cons.mpr ⟨trivial, List.forall_mem_cons.mpr ⟨trivial, List.forall_mem_cons.mpr ⟨trivial, List.forall_mem_cons.mpr ⟨fl_S_77, List.forall_mem_cons.mpr ⟨trivial, List.forall_mem_cons.mpr ⟨trivial, List.forall_mem_cons.mpr ⟨fl_S_27, List.forall_mem_cons.mpr ⟨trivial, List.forall_mem_cons.mpr ⟨trivial, List.forall_mem_cons.mpr ⟨fl_S_204, List.forall_mem_cons.mpr ⟨trivial, List.forall_mem_cons.mpr ⟨fl_S_27, List.forall_mem_cons.mpr ⟨trivial, List.forall_mem_cons.mpr ⟨trivial, List.forall_mem_cons.mpr ⟨fl_S_207, List.forall_mem_cons.mpr ⟨trivial, List.forall_mem_cons.mpr ⟨trivial, List.forall_mem_cons.mpr ⟨trivial, List.forall_mem_cons.mpr ⟨trivial, List.forall_mem_cons.mpr ⟨trivial, List.forall_mem_cons.mpr ⟨trivial, List.forall_mem_cons.mpr ⟨trivial, List.forall_mem_cons.mpr ⟨trivial, List.forall_mem_cons.mpr ⟨trivial, List.forall_mem_cons.mpr ⟨trivial, List.forall_mem_cons.mpr ⟨trivial, List.forall_mem_cons.mpr ⟨fl_S_109, List.forall_mem_cons.mpr ⟨trivial, List.forall_mem_cons.mpr ⟨trivial, List.forall_mem_cons.mpr ⟨fl_S_20, List.forall_mem_cons.mpr ⟨trivial, List.forall_mem_cons.mpr ⟨trivial, List.forall_mem_cons.mpr ⟨fl_S_210, List.forall_mem_cons.mpr ⟨trivial, List.forall_mem_cons.mpr ⟨trivial, List.forall_mem_cons.mpr ⟨trivial, List.forall_mem_cons.mpr ⟨trivial, List.forall_mem_cons.mpr ⟨trivial, List.forall_mem_cons.mpr ⟨trivial, List.forall_mem_cons.mpr ⟨fl_S_20, List.forall_mem_cons.mpr ⟨trivial, List.forall_mem_cons.mpr ⟨trivial, List.forall_mem_cons.mpr ⟨fl_S_210, List.forall_mem_cons.mpr ⟨trivial, List.forall_mem_cons.mpr ⟨trivial, List.forall_mem_cons.mpr ⟨trivial, List.forall_mem_cons.mpr ⟨trivial, List.forall_mem_cons.mpr ⟨trivial, List.forall_mem_cons.mpr ⟨trivial, List.forall_mem_cons.mpr ⟨trivial, List.forall_mem_cons.mpr ⟨trivial, List.forall_mem_cons.mpr ⟨trivial, List.forall_mem_cons.mpr ⟨trivial, List.forall_mem_cons.mpr ⟨trivial, List.forall_mem_cons.mpr ⟨trivial, List.forall_mem_cons.mpr ⟨trivial, List.forall_mem_cons.mpr ⟨trivial, List.forall_mem_cons.mpr ⟨trivial, List.forall_mem_cons.mpr ⟨trivial, List.forall_mem_cons.mpr ⟨trivial, List.forall_mem_cons.mpr ⟨trivial, List.forall_mem_cons.mpr ⟨trivial, List.forall_mem_cons.mpr ⟨trivial, List.forall_mem_cons.mpr ⟨fl_S_20, List.forall_mem_cons.mpr ⟨trivial, List.forall_mem_cons.mpr ⟨trivial, List.forall_mem_cons.mpr ⟨fl_S_120, List.forall_mem_cons.mpr ⟨trivial, List.forall_mem_cons.mpr ⟨trivial, List.forall_mem_cons.mpr ⟨trivial, List.forall_mem_cons.mpr ⟨trivial, List.forall_mem_cons.mpr ⟨trivial, List.forall_mem_cons.mpr ⟨trivial, List.forall_mem_cons.mpr ⟨trivial, List.forall_mem_cons.mpr ⟨fl_S_27, List.forall_mem_cons.mpr ⟨trivial, List.forall_mem_cons.mpr ⟨trivial, List.forall_mem_cons.mpr ⟨trivial, List.forall_mem_cons.mpr ⟨fl_S_204, List.forall_mem_cons.mpr ⟨trivial, List.forall_mem_cons.mpr ⟨trivial, List.forall_mem_cons.mpr ⟨fl_S_204, List.forall_mem_cons.mpr ⟨trivial, List.forall_mem_cons.mpr ⟨fl_S_20, List.forall_mem_cons.mpr ⟨trivial, List.forall_mem_cons.mpr ⟨trivial, List.forall_mem_cons.mpr ⟨trivial, List.forall_mem_cons.mpr ⟨fl_S_14, List.forall_mem_cons.mpr ⟨trivial, List.forall_mem_cons.mpr ⟨trivial, List.forall_mem_cons.mpr ⟨trivial, fun _ h => absurd h List.not_mem_nil⟩⟩⟩⟩⟩⟩⟩⟩⟩⟩⟩⟩⟩⟩⟩⟩⟩⟩⟩⟩⟩⟩⟩⟩⟩⟩⟩⟩⟩⟩⟩⟩⟩⟩⟩⟩⟩⟩⟩⟩⟩⟩⟩⟩⟩⟩⟩⟩⟩⟩⟩⟩⟩⟩⟩⟩⟩⟩⟩⟩⟩⟩⟩⟩⟩⟩⟩⟩⟩⟩⟩⟩⟩⟩⟩⟩⟩⟩⟩⟩⟩⟩⟩⟩⟩⟩⟩⟩⟩⟩⟩⟩⟩⟩⟩⟩⟩⟩⟩
theorem cw_S_giveBestHour : cl_V M_S_giveBestHour 0 := ⟨⟨wd_256, wd_1, ⟨by decide, by decide⟩, by decide +kernel⟩, wd_255, sl_13⟩
def T_S_plannedHours : List En := [(0, .iconst 0, 1, 1, 0, 0), (1, .istore_n 1, 1, 2, 0, 0), (2, .iconst 0, 1, 3, 0, 0), (3, .istore_n 2, 1, 4, 0, 0), (4, .iload_n 2, 1, 5, 0, 0), (5, .aload_n 0, 1, 6, 0, 0), (6, .getfield 77, 3, 9, 3, 4), (9, .if_icmp .ge 21, 3, 12, 30, 0), (12, .iload_n 1, 1, 13, 0, 0), (13, .aload_n 0, 1, 14, 0, 0), (14, .getfield 27, 3, 17, 3, 3), (17, .iload_n 2, 1, 18, 0, 0), (18, .aaload, 1, 19, 0, 0), (19, .getfield 204, 3, 22, 2, 3), (22, .iadd, 1, 23, 0, 0), (23, .istore_n 1, 1, 24, 0, 0), (24, .iinc 2 1, 3, 27, 0, 0), (27, .goto (-23), 3, 30, 4, 0), (30, .iload_n 1, 1, 31, 0, 0), (31, .ireturn, 1, 32, 0, 0)]
def M_S_plannedHours : Md := (⟨"SearchGrids", "plannedHours", "()I"⟩, prog_1_method_34_code, 3, some .int, T_S_plannedHours)
theorem ok_S_plannedHours : md_ok M_S_plannedHours := ⟨by decide +kernel, List.forall_mem_cons.mpr ⟨trivial, List.forall_mem_cons.mpr ⟨trivial, List.forall_mem_cons.mpr ⟨trivial, List.forall_mem_cons.mpr ⟨trivial, List.forall_mem_cons.mpr ⟨trivial, List.forall_mem_cons.mpr ⟨trivial, List.forall_mem_cons.mpr ⟨fl_S_77, List.forall_mem_cons.mpr ⟨trivial, List.forall_mem_cons.mpr ⟨trivial, List.forall_mem_cons.mpr ⟨trivial, List.forall_mem_cons.mpr ⟨fl_S_27, List.forall_mem_cons.mpr ⟨trivial, List.forall_mem_cons.mpr ⟨trivial, List.forall_mem_cons.mpr ⟨fl_S_204, List.forall_mem_cons.mpr ⟨trivial, List.forall_mem_cons.mpr ⟨trivial, List.forall_mem_cons.mpr ⟨trivial, List.forall_mem_cons.mpr ⟨trivial, List.forall_mem_cons.mpr ⟨trivial, List.forall_mem_cons.mpr ⟨trivial, fun _ h => absurd h List.not_mem_nil⟩⟩⟩⟩⟩⟩⟩⟩⟩⟩⟩⟩⟩⟩⟩⟩⟩⟩⟩⟩⟩
theorem cw_S_plannedHours : cl_V M_S_plannedHours 0 := ⟨⟨wd_268, wd_1, ⟨by decide, by decide⟩, by decide +kernel⟩, wd_267, sl_14⟩
def T_S_plannedFinds : List En := [(0, .lconst 0, 1, 1, 0, 0), (1, .lstore_n 1, 1, 2, 0, 0), (2, .iconst 0, 1, 3, 0, 0), (3, .istore_n 3, 1, 4, 0, 0), (4, .iload_n 3, 1, 5, 0, 0), (5, .aload_n 0, 1, 6, 0, 0), (6, .getfield 109, 3, 9, 3, 2), (9, .if_icmp .ge 34, 3, 12, 43, 0), (12, .lload_n 1, 1, 13, 0, 0), (13, .aload_n 0, 1, 14, 0, 0), (14, .getfield 20, 3, 17, 3, 1), (17, .iload_n 3, 1, 18, 0, 0), (18, .aaload, 1, 19, 0, 0), (19, .aload_n 0, 1, 20, 0, 0), (20, .getfield 20, 3, 23, 3, 1), (23, .iload_n 3, 1, 24, 0, 0), (24, .aaload, 1, 25, 0, 0), (25, .getfield 120, 3, 28, 0, 1), (28, .aload_n 0, 1, 29, 0, 0), (29, .getfield 14, 3, 32, 3, 5), (32, .invokevirtual 214, 3, 35, 0, 0), (35, .ladd, 1, 36, 0, 0), (36, .lstore_n 1, 1, 37, 0, 0), (37, .iinc 3 1, 3, 40, 0, 0), (40, .goto (-36), 3, 43, 4, 0), (43, .lload_n 1, 1, 44, 0, 0), (44, .lreturn, 1, 45, 0, 0)]
def M_S_plannedFinds : Md := (⟨"SearchGrids", "plannedFinds", "()J"⟩, prog_1_method_35_code, 4, some .long, T_S_plannedFinds)
theorem ok_S_plannedFinds : md_ok M_S_plannedFinds := ⟨by decide +kernel, List.forall_mem_cons.mpr ⟨trivial, List.forall_mem_cons.mpr ⟨trivial, List.forall_mem_cons.mpr ⟨trivial, List.forall_mem_cons.mpr ⟨trivial, List.forall_mem_cons.mpr ⟨trivial, List.forall_mem_cons.mpr ⟨trivial, List.forall_mem_cons.mpr ⟨fl_S_109, List.forall_mem_cons.mpr ⟨trivial, List.forall_mem_cons.mpr ⟨trivial, List.forall_mem_cons.mpr ⟨trivial, List.forall_mem_cons.mpr ⟨fl_S_20, List.forall_mem_cons.mpr ⟨trivial, List.forall_mem_cons.mpr ⟨trivial, List.forall_mem_cons.mpr ⟨trivial, List.forall_mem_cons.mpr ⟨fl_S_20, List.forall_mem_cons.mpr ⟨trivial, List.forall_mem_cons.mpr ⟨trivial, List.forall_mem_cons.mpr ⟨fl_S_120, List.forall_mem_cons.mpr ⟨trivial, List.forall_mem_cons.mpr ⟨fl_S_14, List.forall_mem_cons.mpr ⟨trivial, List.forall_mem_cons.mpr ⟨trivial, List.forall_mem_cons.mpr ⟨trivial, List.forall_mem_cons.mpr ⟨trivial, List.forall_mem_cons.mpr ⟨trivial, List.forall_mem_cons.mpr ⟨trivial, List.forall_mem_cons.mpr ⟨trivial, fun _ h => absurd h List.not_mem_nil⟩⟩⟩⟩⟩⟩⟩⟩⟩⟩⟩⟩⟩⟩⟩⟩⟩⟩⟩⟩⟩⟩⟩⟩⟩⟩⟩⟩
theorem cw_S_plannedFinds : cl_V M_S_plannedFinds 0 := ⟨⟨wd_272, wd_1, ⟨by decide, by decide⟩, by decide +kernel⟩, wd_271, sl_15⟩
def T_S_isOutdone : List En := [(0, .iload_n 1, 1, 1, 0, 0), (1, .aload_n 0, 1, 2, 0, 0), (2, .getfield 109, 3, 5, 3, 2), (5, .if_icmp .lt 5, 3, 8, 10, 0), (8, .iconst 0, 1, 9, 0, 0), (9, .ireturn, 1, 10, 0, 0), (10, .aload_n 0, 1, 11, 0, 0), (11, .getfield 20, 3, 14, 3, 1), (14, .iload_n 1, 1, 15, 0, 0), (15, .aaload, 1, 16, 0, 0), (16, .astore 8, 2, 18, 0, 0), (18, .iload_n 3, 1, 19, 0, 0), (19, .ifCond .ne 32, 3, 22, 51, 0), (22, .lload 4, 2, 24, 0, 0), (24, .aload 8, 2, 26, 0, 0), (26, .aload 8, 2, 28, 0, 0), (28, .getfield 218, 3, 31, 0, 3), (31, .aload_n 0, 1, 32, 0, 0), (32, .getfield 14, 3, 35, 3, 5), (35, .invokevirtual 214, 3, 38, 0, 0), (38, .ladd, 1, 39, 0, 0), (39, .lload 6, 2, 41, 0, 0), (41, .lcmp, 1, 42, 0, 0), (42, .ifCond .le 7, 3, 45, 49, 0), (45, .iconst 1, 1, 46, 0, 0), (46, .goto 4, 3, 49, 50, 0), (49, .iconst 0, 1, 50, 0, 0), (50, .ireturn, 1, 51, 0, 0), (51, .iload_n 2, 1, 52, 0, 0), (52, .aload_n 0, 1, 53, 0, 0), (53, .getfield 77, 3, 56, 3, 4), (56, .if_icmp .lt 32, 3, 59, 88, 0), (59, .aload_n 0, 1, 60, 0, 0), (60, .iload_n 1, 1, 61, 0, 0), (61, .iconst 1, 1, 62, 0, 0), (62, .iadd, 1, 63, 0, 0), (63, .iconst 0, 1, 64, 0, 0), (64, .iload_n 3, 1, 65, 0, 0), (65, .lload 4, 2, 67, 0, 0), (67, .aload 8, 2, 69, 0, 0), (69, .aload 8, 2, 71, 0, 0), (71, .getfield 218, 3, 74, 0, 3), (74, .aload_n 0, 1, 75, 0, 0), (75, .getfield 14, 3, 78, 3, 5), (78, .invokevirtual 214, 3, 81, 0, 0), (81, .ladd, 1, 82, 0, 0), (82, .lload 6, 2, 84, 0, 0), (84, .invokevirtual 130, 3, 87, 0, 0), (87, .ireturn, 1, 88, 0, 0), (88, .aload_n 0, 1, 89, 0, 0), (89, .getfield 27, 3, 92, 3, 3), (92, .iload_n 2, 1, 93, 0, 0), (93, .aaload, 1, 94, 0, 0), (94, .astore 9, 2, 96, 0, 0), (96, .iload_n 3, 1, 97, 0, 0), (97, .aload 9, 2, 99, 0, 0), (99, .getfield 207, 3, 102, 2, 2), (102, .aload 9, 2, 104, 0, 0), (104, .getfield 221, 3, 107, 2, 4), (107, .isub, 1, 108, 0, 0), (108, .invokestatic 223, 3, 111, 0, 0), (111, .istore 10, 2, 113, 0, 0), (113, .iconst 0, 1, 114, 0, 0), (114, .istore 11, 2, 116, 0, 0), (116, .iconst 0, 1, 117, 0, 0), (117, .istore 12, 2, 119, 0, 0), (119, .iload 12, 2, 121, 0, 0), (121, .iload 10, 2, 123, 0, 0), (123, .if_icmp .gt 65, 3, 126, 188, 0), (126, .iload 11, 2, 128, 0, 0), (128, .ifCond .ne 60, 3, 131, 188, 0), (131, .aload 8, 2, 133, 0, 0), (133, .getfield 218, 3, 136, 0, 3), (136, .iload_n 2, 1, 137, 0, 0), (137, .iload 12, 2, 139, 0, 0), (139, .iastore, 1, 140, 0, 0), (140, .aload 9, 2, 142, 0, 0), (142, .dup, 1, 143, 0, 0), (143, .getfield 221, 3, 146, 2, 4), (146, .iload 12, 2, 148, 0, 0), (148, .iadd, 1, 149, 0, 0), (149, .putfield 221, 3, 152, 2, 4), (152, .aload_n 0, 1, 153, 0, 0), (153, .iload_n 1, 1, 154, 0, 0), (154, .iload_n 2, 1, 155, 0, 0), (155, .iconst 1, 1, 156, 0, 0), (156, .iadd, 1, 157, 0, 0), (157, .iload_n 3, 1, 158, 0, 0), (158, .iload 12, 2, 160, 0, 0), (160, .isub, 1, 161, 0, 0), (161, .lload 4, 2, 163, 0, 0), (163, .lload 6, 2, 165, 0, 0), (165, .invokevirtual 130, 3, 168, 0, 0), (168, .istore 11, 2, 170, 0, 0), (170, .aload 9, 2, 172, 0, 0), (172, .dup, 1, 173, 0, 0), (173, .getfield 221, 3, 176, 2, 4), (176, .iload 12, 2, 178, 0, 0), (178, .isub, 1, 179, 0, 0), (179, .putfield 221, 3, 182, 2, 4), (182, .iinc 12 1, 3, 185, 0, 0), (185, .goto (-66), 3, 188, 119, 0), (188, .aload 8, 2, 190, 0, 0), (190, .getfield 218, 3, 193, 0, 3), (193, .iload_n 2, 1, 194, 0, 0), (194, .iconst 0, 1, 195, 0, 0), (195, .iastore, 1, 196, 0, 0), (196, .iload 11, 2, 198, 0, 0), (198, .ireturn, 1, 199, 0, 0)]
def M_S_isOutdone : Md := (⟨"SearchGrids", "isOutdone", "(IIIJJ)Z"⟩, prog_1_method_36_code, 13, some .boolean, T_S_isOutdone)
theorem ok_S_isOutdone : md_ok M_S_isOutdone := ⟨by decide +kernel, List.forall_mem_cons.mpr ⟨trivial, List.forall_mem_cons.mpr ⟨trivial, List.forall_mem_cons.mpr ⟨fl_S_109, List.forall_mem_cons.mpr ⟨trivial, List.forall_mem_cons.mpr ⟨trivial, List.forall_mem_cons.mpr ⟨trivial, List.forall_mem_cons.mpr ⟨trivial, List.forall_mem_cons.mpr ⟨fl_S_20, List.forall_mem_cons.mpr ⟨trivial, List.forall_mem_cons.mpr ⟨trivial, List.forall_mem_cons.mpr ⟨trivial, List.forall_mem_cons.mpr ⟨trivial, List.forall_mem_cons.mpr ⟨trivial, List.forall_mem_cons.mpr ⟨trivial, List.forall_mem_cons.mpr ⟨trivial, List.forall_mem_cons.mpr ⟨trivial, List.forall_mem_cons.mpr ⟨fl_S_218, List.forall_mem_cons.mpr ⟨trivial, List.forall_mem_cons.mpr ⟨fl_S_14, List.forall_mem_cons.mpr ⟨trivial, List.forall_mem_cons.mpr ⟨trivial, List.forall_mem_cons.mpr ⟨trivial, List.forall_mem_cons.mpr ⟨trivial, List.forall_mem_cons.mpr ⟨trivial, List.forall_mem_cons.mpr ⟨trivial, List.forall_mem_cons.mpr ⟨trivial, List.forall_mem_cons.mpr ⟨trivial, List.forall_mem_cons.mpr ⟨trivial, List.forall_mem_cons.mpr ⟨trivial, List.forall_mem_cons.mpr ⟨trivial, List.forall_mem_cons.mpr ⟨fl_S_77, List.forall_mem_cons.mpr ⟨trivial, List.forall_mem_cons.mpr ⟨trivial, List.forall_mem_cons.mpr ⟨trivial, List.forall_mem_cons.mpr ⟨trivial, List.forall_mem_cons.mpr ⟨trivial, List.forall_mem_cons.mpr ⟨trivial, List.forall_mem_cons.mpr ⟨trivial, List.forall_mem_cons.mpr ⟨trivial, List.forall_mem_cons.mpr ⟨trivial, List.forall_mem_cons.mpr ⟨trivial, List.forall_mem_cons.mpr ⟨fl_S_218, List.forall_mem_cons.mpr ⟨trivial, List.forall_mem_cons.mpr ⟨fl_S_14, List.forall_mem_cons.mpr ⟨trivial, List.forall_mem_cons.mpr ⟨trivial, List.forall_mem_cons.mpr ⟨trivial, List.forall_mem_cons.mpr ⟨trivial, List.forall_mem_cons.mpr ⟨trivial, List.forall_mem_cons.mpr ⟨trivial, List.forall_mem_cons.mpr ⟨fl_S_27, List.forall_mem_cons.mpr ⟨trivial, List.forall_mem_cons.mpr ⟨trivial, List.forall_mem_cons.mpr ⟨trivial, List.forall_mem_cons.mpr ⟨trivial, List.forall_mem_cons.mpr ⟨trivial, List.forall_mem_cons.mpr ⟨fl_S_207, List.forall_mem_cons.mpr ⟨trivial, List.forall_mem_cons.mpr ⟨fl_S_221, List.forall_mem_cons.mpr ⟨trivial, List.forall_mem_cons.mpr ⟨trivial, List.forall_mem_cons.mpr ⟨trivial, List.forall_mem_cons.mpr ⟨trivial, List.forall_mem_cons.mpr ⟨trivial, List.forall_mem_cons.mpr ⟨trivial, List.forall_mem_cons.mpr ⟨trivial, List.forall_mem_cons.mpr ⟨trivial, List.forall_mem_cons.mpr ⟨trivial, List.forall_mem_cons.mpr ⟨trivial, List.forall_mem_cons.mpr ⟨trivial, List.forall_mem_cons.mpr ⟨trivial, List.forall_mem_cons.mpr ⟨trivial, List.forall_mem_cons.mpr ⟨fl_S_218, List.forall_mem_cons.mpr ⟨trivial, List.forall_mem_cons.mpr ⟨trivial, List.forall_mem_cons.mpr ⟨trivial, List.forall_mem_cons.mpr ⟨trivial, List.forall_mem_cons.mpr ⟨trivial, List.forall_mem_cons.mpr ⟨fl_S_221, List.forall_mem_cons.mpr ⟨trivial, List.forall_mem_cons.mpr ⟨trivial, List.forall_mem_cons.mpr ⟨fl_S_221, List.forall_mem_cons.mpr ⟨trivial, List.forall_mem_cons.mpr ⟨trivial, List.forall_mem_cons.mpr ⟨trivial, List.forall_mem_cons.mpr ⟨trivial, List.forall_mem_cons.mpr ⟨trivial, List.forall_mem_cons.mpr ⟨trivial, List.forall_mem_cons.mpr ⟨trivial, List.forall_mem_cons.mpr ⟨trivial, List.forall_mem_cons.mpr ⟨trivial, List.forall_mem_cons.mpr ⟨trivial, List.forall_mem_cons.mpr ⟨trivial, List.forall_mem_cons.mpr ⟨trivial, List.forall_mem_cons.mpr ⟨trivial, List.forall_mem_cons.mpr ⟨trivial, List.forall_mem_cons.mpr ⟨fl_S_221, List.forall_mem_cons.mpr ⟨trivial, List.forall_mem_cons.mpr ⟨trivial, List.forall_mem_cons.mpr ⟨fl_S_221, List.forall_mem_cons.mpr ⟨trivial, List.forall_mem_cons.mpr ⟨trivial, List.forall_mem_cons.mpr ⟨trivial, List.forall_mem_cons.mpr ⟨fl_S_218, List.forall_mem_cons.mpr ⟨trivial, List.forall_mem_cons.mpr ⟨trivial, List.forall_mem_cons.mpr ⟨trivial, List.forall_mem_cons.mpr ⟨trivial, List.forall_mem_cons.mpr ⟨trivial, fun _ h => absurd h List.not_mem_nil⟩⟩⟩⟩⟩⟩⟩⟩⟩⟩⟩⟩⟩⟩⟩⟩⟩⟩⟩⟩⟩⟩⟩⟩⟩⟩⟩⟩⟩⟩⟩⟩⟩⟩⟩⟩⟩⟩⟩⟩⟩⟩⟩⟩⟩⟩⟩⟩⟩⟩⟩⟩⟩⟩⟩⟩⟩⟩⟩⟩⟩⟩⟩⟩⟩⟩⟩⟩⟩⟩⟩⟩⟩⟩⟩⟩⟩⟩⟩⟩⟩⟩⟩⟩⟩⟩⟩⟩⟩⟩⟩⟩⟩⟩⟩⟩⟩⟩⟩⟩⟩⟩⟩⟩⟩⟩⟩⟩⟩⟩
theorem cw_S_isOutdone : cl_V M_S_isOutdone 5 := ⟨⟨wd_277, wd_1, ⟨by decide, by decide⟩, by decide +kernel⟩, wd_276, sl_16⟩
def T_S_standingOf : List En := [(0, .aload_n 0, 1, 1, 0, 0), (1, .getfield 42, 3, 4, 3, 8), (4, .iconst (-1), 1, 5, 0, 0), (5, .if_icmp .eq 20, 3, 8, 25, 0), (8, .aload_n 1, 1, 9, 0, 0), (9, .getfield 186, 3, 12, 0, 5), (12, .aload_n 0, 1, 13, 0, 0), (13, .getfield 42, 3, 16, 3, 8), (16, .if_icmp .ne 7, 3, 19, 23, 0), (19, .lconst 1, 1, 20, 0, 0), (20, .goto 4, 3, 23, 24, 0), (23, .lconst 0, 1, 24, 0, 0), (24, .lreturn, 1, 25, 0, 0), (25, .aload_n 1, 1, 26, 0, 0), (26, .aload_n 0, 1, 27, 0, 0), (27, .getfield 14, 3, 30, 3, 5), (30, .invokevirtual 141, 3, 33, 0, 0), (33, .lreturn, 1, 34, 0, 0)]
def M_S_standingOf : Md := (⟨"SearchGrids", "standingOf", "(LSearchGrids$Cell;)J"⟩, prog_1_method_37_code, 2, some .long, T_S_standingOf)
theorem ok_S_standingOf : md_ok M_S_standingOf := ⟨by decide +kernel, List.forall_mem_cons.mpr ⟨trivial, List.forall_mem_cons.mpr ⟨fl_S_42, List.forall_mem_cons.mpr ⟨trivial, List.forall_mem_cons.mpr ⟨trivial, List.forall_mem_cons.mpr ⟨trivial, List.forall_mem_cons.mpr ⟨fl_S_186, List.forall_mem_cons.mpr ⟨trivial, List.forall_mem_cons.mpr ⟨fl_S_42, List.forall_mem_cons.mpr ⟨trivial, List.forall_mem_cons.mpr ⟨trivial, List.forall_mem_cons.mpr ⟨trivial, List.forall_mem_cons.mpr ⟨trivial, List.forall_mem_cons.mpr ⟨trivial, List.forall_mem_cons.mpr ⟨trivial, List.forall_mem_cons.mpr ⟨trivial, List.forall_mem_cons.mpr ⟨fl_S_14, List.forall_mem_cons.mpr ⟨trivial, List.forall_mem_cons.mpr ⟨trivial, fun _ h => absurd h List.not_mem_nil⟩⟩⟩⟩⟩⟩⟩⟩⟩⟩⟩⟩⟩⟩⟩⟩⟩⟩⟩
theorem cw_S_standingOf : cl_V M_S_standingOf 1 := ⟨⟨wd_350, wd_1, ⟨by decide, by decide⟩, by decide +kernel⟩, wd_349, sl_20⟩
def T_S_countBefore : List En := [(0, .iconst 0, 1, 1, 0, 0), (1, .istore_n 2, 1, 2, 0, 0), (2, .iconst 0, 1, 3, 0, 0), (3, .istore_n 3, 1, 4, 0, 0), (4, .iload_n 3, 1, 5, 0, 0), (5, .aload_n 0, 1, 6, 0, 0), (6, .getfield 109, 3, 9, 3, 2), (9, .if_icmp .ge 85, 3, 12, 94, 0), (12, .aload_n 0, 1, 13, 0, 0), (13, .getfield 20, 3, 16, 3, 1), (16, .iload_n 3, 1, 17, 0, 0), (17, .aaload, 1, 18, 0, 0), (18, .getfield 180, 3, 21, 0, 8), (21, .aload_n 0, 1, 22, 0, 0), (22, .getfield 20, 3, 25, 3, 1), (25, .iload_n 1, 1, 26, 0, 0), (26, .aaload, 1, 27, 0, 0), (27, .getfield 180, 3, 30, 0, 8), (30, .lcmp, 1, 31, 0, 0), (31, .ifCond .le 7, 3, 34, 38, 0), (34, .iconst 1, 1, 35, 0, 0), (35, .goto 4, 3, 38, 39, 0), (38, .iconst 0, 1, 39, 0, 0), (39, .istore 4, 2, 41, 0, 0), (41, .aload_n 0, 1, 42, 0, 0), (42, .getfield 20, 3, 45, 3, 1), (45, .iload_n 3, 1, 46, 0, 0), (46, .aaload, 1, 47, 0, 0), (47, .getfield 180, 3, 50, 0, 8), (50, .aload_n 0, 1, 51, 0, 0), (51, .getfield 20, 3, 54, 3, 1), (54, .iload_n 1, 1, 55, 0, 0), (55, .aaload, 1, 56, 0, 0), (56, .getfield 180, 3, 59, 0, 8), (59, .lcmp, 1, 60, 0, 0), (60, .ifCond .ne 12, 3, 63, 72, 0), (63, .iload_n 3, 1, 64, 0, 0), (64, .iload_n 1, 1, 65, 0, 0), (65, .if_icmp .ge 7, 3, 68, 72, 0), (68, .iconst 1, 1, 69, 0, 0), (69, .goto 4, 3, 72, 73, 0), (72, .iconst 0, 1, 73, 0, 0), (73, .istore 5, 2, 75, 0, 0), (75, .iload 4, 2, 77, 0, 0), (77, .ifCond .ne 8, 3, 80, 85, 0), (80, .iload 5, 2, 82, 0, 0), (82, .ifCond .eq 6, 3, 85, 88, 0), (85, .iinc 2 1, 3, 88, 0, 0), (88, .iinc 3 1, 3, 91, 0, 0), (91, .goto (-87), 3, 94, 4, 0), (94, .iload_n 2, 1, 95, 0, 0), (95, .ireturn, 1, 96, 0, 0)]
def M_S_countBefore : Md := (⟨"SearchGrids", "countBefore", "(I)I"⟩, prog_1_method_38_code, 6, some .int, T_S_countBefore)
theorem ok_S_countBefore : md_ok M_S_countBefore := ⟨by decide +kernel, List.forall_mem_cons.mpr ⟨trivial, List.forall_mem_cons.mpr ⟨trivial, List.forall_mem_cons.mpr ⟨trivial, List.forall_mem_cons.mpr ⟨trivial, List.forall_mem_cons.mpr ⟨trivial, List.forall_mem_cons.mpr ⟨trivial, List.forall_mem_cons.mpr ⟨fl_S_109, List.forall_mem_cons.mpr ⟨trivial, List.forall_mem_cons.mpr ⟨trivial, List.forall_mem_cons.mpr ⟨fl_S_20, List.forall_mem_cons.mpr ⟨trivial, List.forall_mem_cons.mpr ⟨trivial, List.forall_mem_cons.mpr ⟨fl_S_180, List.forall_mem_cons.mpr ⟨trivial, List.forall_mem_cons.mpr ⟨fl_S_20, List.forall_mem_cons.mpr ⟨trivial, List.forall_mem_cons.mpr ⟨trivial, List.forall_mem_cons.mpr ⟨fl_S_180, List.forall_mem_cons.mpr ⟨trivial, List.forall_mem_cons.mpr ⟨trivial, List.forall_mem_cons.mpr ⟨trivial, List.forall_mem_cons.mpr ⟨trivial, List.forall_mem_cons.mpr ⟨trivial, List.forall_mem_cons.mpr ⟨trivial, List.forall_mem_cons.mpr ⟨trivial, List.forall_mem_cons.mpr ⟨fl_S_20, List.forall_mem_cons.mpr ⟨trivial, List.forall_mem_cons.mpr ⟨trivial, List.forall_mem_cons.mpr ⟨fl_S_180, List.forall_mem_cons.mpr ⟨trivial, List.forall_mem_cons.mpr ⟨fl_S_20, List.forall_mem_cons.mpr ⟨trivial, List.forall_mem_cons.mpr ⟨trivial, List.forall_mem_cons.mpr ⟨fl_S_180, List.forall_mem_cons.mpr ⟨trivial, List.forall_mem_cons.mpr ⟨trivial, List.forall_mem_cons.mpr ⟨trivial, List.forall_mem_cons.mpr ⟨trivial, List.forall_mem_cons.mpr ⟨trivial, List.forall_mem_cons.mpr ⟨trivial, List.forall_mem_cons.mpr ⟨trivial, List.forall_mem_cons.mpr ⟨trivial, List.forall_mem_cons.mpr ⟨trivial, List.forall_mem_cons.mpr ⟨trivial, List.forall_mem_cons.mpr ⟨trivial, List.forall_mem_cons.mpr ⟨trivial, List.forall_mem_cons.mpr ⟨trivial, List.forall_mem_cons.mpr ⟨trivial, List.forall_mem_cons.mpr ⟨trivial, List.forall_mem_cons.mpr ⟨trivial, List.forall_mem_cons.mpr ⟨trivial, List.forall_mem_cons.mpr ⟨trivial, fun _ h => absurd h List.not_mem_nil⟩⟩⟩⟩⟩⟩⟩⟩⟩⟩⟩⟩⟩⟩⟩⟩⟩⟩⟩⟩⟩⟩⟩⟩⟩⟩⟩⟩⟩⟩⟩⟩⟩⟩⟩⟩⟩⟩⟩⟩⟩⟩⟩⟩⟩⟩⟩⟩⟩⟩⟩⟩⟩
theorem cw_S_countBefore : cl_V M_S_countBefore 1 := ⟨⟨wd_354, wd_1, ⟨by decide, by decide⟩, by decide +kernel⟩, wd_353, sl_21⟩
def T_S_rowWidth : List En := [(0, .iconst 1, 1, 1, 0, 0), (1, .istore_n 1, 1, 2, 0, 0), (2, .iconst 2, 1, 3, 0, 0), (3, .istore_n 2, 1, 4, 0, 0), (4, .iload_n 2, 1, 5, 0, 0), (5, .iload_n 2, 1, 6, 0, 0), (6, .imul, 1, 7, 0, 0), (7, .iload_n 0, 1, 8, 0, 0), (8, .if_icmp .gt 17, 3, 11, 25, 0), (11, .iload_n 0, 1, 12, 0, 0), (12, .iload_n 2, 1, 13, 0, 0), (13, .irem, 1, 14, 0, 0), (14, .ifCond .ne 5, 3, 17, 19, 0), (17, .iload_n 2, 1, 18, 0, 0), (18, .istore_n 1, 1, 19, 0, 0), (19, .iinc 2 1, 3, 22, 0, 0), (22, .goto (-18), 3, 25, 4, 0), (25, .iload_n 1, 1, 26, 0, 0), (26, .ireturn, 1, 27, 0, 0)]
def M_S_rowWidth : Md := (⟨"SearchGrids", "rowWidth", "(I)I"⟩, prog_1_method_39_code, 3, some .int, T_S_rowWidth)
theorem ok_S_rowWidth : md_ok M_S_rowWidth := ⟨by decide +kernel, List.forall_mem_cons.mpr ⟨trivial, List.forall_mem_cons.mpr ⟨trivial, List.forall_mem_cons.mpr ⟨trivial, List.forall_mem_cons.mpr ⟨trivial, List.forall_mem_cons.mpr ⟨trivial, List.forall_mem_cons.mpr ⟨trivial, List.forall_mem_cons.mpr ⟨trivial, List.forall_mem_cons.mpr ⟨trivial, List.forall_mem_cons.mpr ⟨trivial, List.forall_mem_cons.mpr ⟨trivial, List.forall_mem_cons.mpr ⟨trivial, List.forall_mem_cons.mpr ⟨trivial, List.forall_mem_cons.mpr ⟨trivial, List.forall_mem_cons.mpr ⟨trivial, List.forall_mem_cons.mpr ⟨trivial, List.forall_mem_cons.mpr ⟨trivial, List.forall_mem_cons.mpr ⟨trivial, List.forall_mem_cons.mpr ⟨trivial, List.forall_mem_cons.mpr ⟨trivial, fun _ h => absurd h List.not_mem_nil⟩⟩⟩⟩⟩⟩⟩⟩⟩⟩⟩⟩⟩⟩⟩⟩⟩⟩⟩⟩
theorem cw_S_rowWidth : cl_S M_S_rowWidth 1 := ⟨⟨wd_315, wd_1, ⟨by decide, by decide⟩, by decide +kernel⟩, wd_314⟩
def T_S_rowOf : List En := [(0, .iload_n 1, 1, 1, 0, 0), (1, .iconst 1, 1, 2, 0, 0), (2, .if_icmp .ge 7, 3, 5, 9, 0), (5, .iconst 0, 1, 6, 0, 0), (6, .goto 6, 3, 9, 12, 0), (9, .iload_n 0, 1, 10, 0, 0), (10, .iload_n 1, 1, 11, 0, 0), (11, .idiv, 1, 12, 0, 0), (12, .ireturn, 1, 13, 0, 0)]
def M_S_rowOf : Md := (⟨"SearchGrids", "rowOf", "(II)I"⟩, prog_1_method_40_code, 2, some .int, T_S_rowOf)
theorem ok_S_rowOf : md_ok M_S_rowOf := ⟨by decide +kernel, List.forall_mem_cons.mpr ⟨trivial, List.forall_mem_cons.mpr ⟨trivial, List.forall_mem_cons.mpr ⟨trivial, List.forall_mem_cons.mpr ⟨trivial, List.forall_mem_cons.mpr ⟨trivial, List.forall_mem_cons.mpr ⟨trivial, List.forall_mem_cons.mpr ⟨trivial, List.forall_mem_cons.mpr ⟨trivial, List.forall_mem_cons.mpr ⟨trivial, fun _ h => absurd h List.not_mem_nil⟩⟩⟩⟩⟩⟩⟩⟩⟩⟩
theorem cw_S_rowOf : cl_S M_S_rowOf 2 := ⟨⟨wd_321, wd_1, ⟨by decide, by decide⟩, by decide +kernel⟩, wd_320⟩
def T_S_placeInRow : List En := [(0, .iload_n 1, 1, 1, 0, 0), (1, .iconst 1, 1, 2, 0, 0), (2, .if_icmp .ge 5, 3, 5, 7, 0), (5, .iconst 0, 1, 6, 0, 0), (6, .ireturn, 1, 7, 0, 0), (7, .iload_n 0, 1, 8, 0, 0), (8, .iload_n 1, 1, 9, 0, 0), (9, .irem, 1, 10, 0, 0), (10, .istore_n 2, 1, 11, 0, 0), (11, .iload_n 0, 1, 12, 0, 0), (12, .iload_n 1, 1, 13, 0, 0), (13, .invokestatic 163, 3, 16, 0, 0), (16, .iconst 2, 1, 17, 0, 0), (17, .irem, 1, 18, 0, 0), (18, .ifCond .ne 7, 3, 21, 25, 0), (21, .iload_n 2, 1, 22, 0, 0), (22, .goto 8, 3, 25, 30, 0), (25, .iload_n 1, 1, 26, 0, 0), (26, .iconst 1, 1, 27, 0, 0), (27, .isub, 1, 28, 0, 0), (28, .iload_n 2, 1, 29, 0, 0), (29, .isub, 1, 30, 0, 0), (30, .ireturn, 1, 31, 0, 0)]
def M_S_placeInRow : Md := (⟨"SearchGrids", "placeInRow", "(II)I"⟩, prog_1_method_41_code, 3, some .int, T_S_placeInRow)
theorem ok_S_placeInRow : md_ok M_S_placeInRow := ⟨by decide +kernel, List.forall_mem_cons.mpr ⟨trivial, List.forall_mem_cons.mpr ⟨trivial, List.forall_mem_cons.mpr ⟨trivial, List.forall_mem_cons.mpr ⟨trivial, List.forall_mem_cons.mpr ⟨trivial, List.forall_mem_cons.mpr ⟨trivial, List.forall_mem_cons.mpr ⟨trivial, List.forall_mem_cons.mpr ⟨trivial, List.forall_mem_cons.mpr ⟨trivial, List.forall_mem_cons.mpr ⟨trivial, List.forall_mem_cons.mpr ⟨trivial, List.forall_mem_cons.mpr ⟨trivial, List.forall_mem_cons.mpr ⟨trivial, List.forall_mem_cons.mpr ⟨trivial, List.forall_mem_cons.mpr ⟨trivial, List.forall_mem_cons.mpr ⟨trivial, List.forall_mem_cons.mpr ⟨trivial, List.forall_mem_cons.mpr ⟨trivial, List.forall_mem_cons.mpr ⟨trivial, List.forall_mem_cons.mpr ⟨trivial, List.forall_mem_cons.mpr ⟨trivial, List.forall_mem_cons.mpr ⟨trivial, List.forall_mem_cons.mpr ⟨trivial, fun _ h => absurd h List.not_mem_nil⟩⟩⟩⟩⟩⟩⟩⟩⟩⟩⟩⟩⟩⟩⟩⟩⟩⟩⟩⟩⟩⟩⟩⟩
theorem cw_S_placeInRow : cl_S M_S_placeInRow 2 := ⟨⟨wd_318, wd_1, ⟨by decide, by decide⟩, by decide +kernel⟩, wd_317⟩
def T_S_fraction : List En := [(0, .lload_n 0, 1, 1, 0, 0), (1, .lconst 0, 1, 2, 0, 0), (2, .lcmp, 1, 3, 0, 0), (3, .ifCond .le 9, 3, 6, 12, 0), (6, .lload_n 2, 1, 7, 0, 0), (7, .lconst 0, 1, 8, 0, 0), (8, .lcmp, 1, 9, 0, 0), (9, .ifCond .gt 14, 3, 12, 23, 0), (12, .iload 4, 2, 14, 0, 0), (14, .ifCond .ne 7, 3, 17, 21, 0), (17, .lconst 0, 1, 18, 0, 0), (18, .goto 4, 3, 21, 22, 0), (21, .lconst 1, 1, 22, 0, 0), (22, .lreturn, 1, 23, 0, 0), (23, .lload_n 0, 1, 24, 0, 0), (24, .lload_n 2, 1, 25, 0, 0), (25, .invokestatic 228, 3, 28, 0, 0), (28, .lstore 5, 2, 30, 0, 0), (30, .iload 4, 2, 32, 0, 0), (32, .ifCond .ne 7, 3, 35, 39, 0), (35, .lload_n 0, 1, 36, 0, 0), (36, .goto 4, 3, 39, 40, 0), (39, .lload_n 2, 1, 40, 0, 0), (40, .lload 5, 2, 42, 0, 0), (42, .ldiv, 1, 43, 0, 0), (43, .lreturn, 1, 44, 0, 0)]
def M_S_fraction : Md := (⟨"SearchGrids", "fraction", "(JJI)J"⟩, prog_1_method_42_code, 7, some .long, T_S_fraction)
theorem ok_S_fraction : md_ok M_S_fraction := ⟨by decide +kernel, List.forall_mem_cons.mpr ⟨trivial, List.forall_mem_cons.mpr ⟨trivial, List.forall_mem_cons.mpr ⟨trivial, List.forall_mem_cons.mpr ⟨trivial, List.forall_mem_cons.mpr ⟨trivial, List.forall_mem_cons.mpr ⟨trivial, List.forall_mem_cons.mpr ⟨trivial, List.forall_mem_cons.mpr ⟨trivial, List.forall_mem_cons.mpr ⟨trivial, List.forall_mem_cons.mpr ⟨trivial, List.forall_mem_cons.mpr ⟨trivial, List.forall_mem_cons.mpr ⟨trivial, List.forall_mem_cons.mpr ⟨trivial, List.forall_mem_cons.mpr ⟨trivial, List.forall_mem_cons.mpr ⟨trivial, List.forall_mem_cons.mpr ⟨trivial, List.forall_mem_cons.mpr ⟨trivial, List.forall_mem_cons.mpr ⟨trivial, List.forall_mem_cons.mpr ⟨trivial, List.forall_mem_cons.mpr ⟨trivial, List.forall_mem_cons.mpr ⟨trivial, List.forall_mem_cons.mpr ⟨trivial, List.forall_mem_cons.mpr ⟨trivial, List.forall_mem_cons.mpr ⟨trivial, List.forall_mem_cons.mpr ⟨trivial, List.forall_mem_cons.mpr ⟨trivial, fun _ h => absurd h List.not_mem_nil⟩⟩⟩⟩⟩⟩⟩⟩⟩⟩⟩⟩⟩⟩⟩⟩⟩⟩⟩⟩⟩⟩⟩⟩⟩⟩⟩
theorem cw_S_fraction : cl_S M_S_fraction 3 := ⟨⟨wd_191, wd_1, ⟨by decide, by decide⟩, by decide +kernel⟩, wd_190⟩
def T_S_commonDivisor : List En := [(0, .lload_n 0, 1, 1, 0, 0), (1, .lstore 4, 2, 3, 0, 0), (3, .lload_n 2, 1, 4, 0, 0), (4, .lstore 6, 2, 6, 0, 0), (6, .iconst 0, 1, 7, 0, 0), (7, .istore 8, 2, 9, 0, 0), (9, .iload 8, 2, 11, 0, 0), (11, .bipush 100, 2, 13, 0, 0), (13, .if_icmp .ge 31, 3, 16, 44, 0), (16, .lload 6, 2, 18, 0, 0), (18, .lconst 0, 1, 19, 0, 0), (19, .lcmp, 1, 20, 0, 0), (20, .ifCond .eq 24, 3, 23, 44, 0), (23, .lload 4, 2, 25, 0, 0), (25, .lload 6, 2, 27, 0, 0), (27, .lrem, 1, 28, 0, 0), (28, .lstore 9, 2, 30, 0, 0), (30, .lload 6, 2, 32, 0, 0), (32, .lstore 4, 2, 34, 0, 0), (34, .lload 9, 2, 36, 0, 0), (36, .lstore 6, 2, 38, 0, 0), (38, .iinc 8 1, 3, 41, 0, 0), (41, .goto (-32), 3, 44, 9, 0), (44, .lload 4, 2, 46, 0, 0), (46, .lconst 1, 1, 47, 0, 0), (47, .lcmp, 1, 48, 0, 0), (48, .ifCond .ge 7, 3, 51, 55, 0), (51, .lconst 1, 1, 52, 0, 0), (52, .goto 5, 3, 55, 57, 0), (55, .lload 4, 2, 57, 0, 0), (57, .lreturn, 1, 58, 0, 0)]
def M_S_commonDivisor : Md := (⟨"SearchGrids", "commonDivisor", "(JJ)J"⟩, prog_1_method_43_code, 11, some .long, T_S_commonDivisor)
theorem ok_S_commonDivisor : md_ok M_S_commonDivisor := ⟨by decide +kernel, List.forall_mem_cons.mpr ⟨trivial, List.forall_mem_cons.mpr ⟨trivial, List.forall_mem_cons.mpr ⟨trivial, List.forall_mem_cons.mpr ⟨trivial, List.forall_mem_cons.mpr ⟨trivial, List.forall_mem_cons.mpr ⟨trivial, List.forall_mem_cons.mpr ⟨trivial, List.forall_mem_cons.mpr ⟨trivial, List.forall_mem_cons.mpr ⟨trivial, List.forall_mem_cons.mpr ⟨trivial, List.forall_mem_cons.mpr ⟨trivial, List.forall_mem_cons.mpr ⟨trivial, List.forall_mem_cons.mpr ⟨trivial, List.forall_mem_cons.mpr ⟨trivial, List.forall_mem_cons.mpr ⟨trivial, List.forall_mem_cons.mpr ⟨trivial, List.forall_mem_cons.mpr ⟨trivial, List.forall_mem_cons.mpr ⟨trivial, List.forall_mem_cons.mpr ⟨trivial, List.forall_mem_cons.mpr ⟨trivial, List.forall_mem_cons.mpr ⟨trivial, List.forall_mem_cons.mpr ⟨trivial, List.forall_mem_cons.mpr ⟨trivial, List.forall_mem_cons.mpr ⟨trivial, List.forall_mem_cons.mpr ⟨trivial, List.forall_mem_cons.mpr ⟨trivial, List.forall_mem_cons.mpr ⟨trivial, List.forall_mem_cons.mpr ⟨trivial, List.forall_mem_cons.mpr ⟨trivial, List.forall_mem_cons.mpr ⟨trivial, List.forall_mem_cons.mpr ⟨trivial, fun _ h => absurd h List.not_mem_nil⟩⟩⟩⟩⟩⟩⟩⟩⟩⟩⟩⟩⟩⟩⟩⟩⟩⟩⟩⟩⟩⟩⟩⟩⟩⟩⟩⟩⟩⟩⟩⟩
theorem cw_S_commonDivisor : cl_S M_S_commonDivisor 2 := ⟨⟨wd_194, wd_1, ⟨by decide, by decide⟩, by decide +kernel⟩, wd_193⟩
def T_R_init : List En := [(0, .aload_n 0, 1, 1, 0, 0), (1, .invokespecial 1, 3, 4, 0, 0), (4, .aload_n 0, 1, 5, 0, 0), (5, .bipush 40, 2, 7, 0, 0), (7, .newarray .int, 2, 9, 0, 0), (9, .putfield 7, 3, 12, 4, 2), (12, .aload_n 0, 1, 13, 0, 0), (13, .bipush 40, 2, 15, 0, 0), (15, .newarray .int, 2, 17, 0, 0), (17, .putfield 13, 3, 20, 4, 3), (20, .aload_n 0, 1, 21, 0, 0), (21, .sipush 160, 3, 24, 0, 0), (24, .newarray .int, 2, 26, 0, 0), (26, .putfield 16, 3, 29, 4, 4), (29, .aload_n 0, 1, 30, 0, 0), (30, .iconst 1, 1, 31, 0, 0), (31, .putfield 19, 3, 34, 4, 5), (34, .aload_n 0, 1, 35, 0, 0), (35, .iconst 4, 1, 36, 0, 0), (36, .newarray .int, 2, 38, 0, 0), (38, .putfield 23, 3, 41, 4, 7), (41, .aload_n 0, 1, 42, 0, 0), (42, .iconst 4, 1, 43, 0, 0), (43, .newarray .int, 2, 45, 0, 0), (45, .putfield 26, 3, 48, 4, 8), (48, .aload_n 0, 1, 49, 0, 0), (49, .bipush 96, 2, 51, 0, 0), (51, .newarray .boolean, 2, 53, 0, 0), (53, .putfield 29, 3, 56, 4, 9), (56, .aload_n 0, 1, 57, 0, 0), (57, .sipush 160, 3, 60, 0, 0), (60, .newarray .int, 2, 62, 0, 0), (62, .putfield 33, 3, 65, 4, 10), (65, .aload_n 0, 1, 66, 0, 0), (66, .sipush 160, 3, 69, 0, 0), (69, .newarray .int, 2, 71, 0, 0), (71, .putfield 36, 3, 74, 4, 11), (74, .aload_n 0, 1, 75, 0, 0), (75, .sipush 160, 3, 78, 0, 0), (78, .newarray .int, 2, 80, 0, 0), (80, .putfield 39, 3, 83, 4, 12), (83, .aload_n 0, 1, 84, 0, 0), (84, .sipush 200, 3, 87, 0, 0), (87, .newarray .int, 2, 89, 0, 0), (89, .putfield 42, 3, 92, 4, 14), (92, .aload_n 0, 1, 93, 0, 0), (93, .sipush 200, 3, 96, 0, 0), (96, .newarray .int, 2, 98, 0, 0), (98, .putfield 45, 3, 101, 4, 15), (101, .aload_n 0, 1, 102, 0, 0), (102, .sipush 200, 3, 105, 0, 0), (105, .newarray .int, 2, 107, 0, 0), (107, .putfield 48, 3, 110, 4, 16), (110, .aload_n 0, 1, 111, 0, 0), (111, .sipush 200, 3, 114, 0, 0), (114, .newarray .long, 2, 116, 0, 0), (116, .putfield 51, 3, 119, 4, 17), (119, .aload_n 0, 1, 120, 0, 0), (120, .iconst (-1), 1, 121, 0, 0), (121, .putfield 55, 3, 124, 4, 18), (124, .aload_n 0, 1, 125, 0, 0), (125, .iload_n 1, 1, 126, 0, 0), (126, .iconst 1, 1, 127, 0, 0), (127, .if_icmp .ge 7, 3, 130, 134, 0), (130, .iconst 1, 1, 131, 0, 0), (131, .goto 15, 3, 134, 146, 0), (134, .iload_n 1, 1, 135, 0, 0), (135, .ldc 58, 2, 137, 0, 0), (137, .if_icmp .le 8, 3, 140, 145, 0), (140, .ldc 58, 2, 142, 0, 0), (142, .goto 4, 3, 145, 146, 0), (145, .iload_n 1, 1, 146, 0, 0), (146, .putfield 59, 3, 149, 4, 0), (149, .return_, 1, 150, 0, 0)]
def M_R_init : Md := (⟨"SearchGridsModel", "<init>", "(I)V"⟩, prog_6_method_1_code, 2, none, T_R_init)
theorem ok_R_init : md_ok M_R_init := ⟨by decide +kernel, List.forall_mem_cons.mpr ⟨trivial, List.forall_mem_cons.mpr ⟨trivial, List.forall_mem_cons.mpr ⟨trivial, List.forall_mem_cons.mpr ⟨trivial, List.forall_mem_cons.mpr ⟨trivial, List.forall_mem_cons.mpr ⟨fl_R_7, List.forall_mem_cons.mpr ⟨trivial, List.forall_mem_cons.mpr ⟨trivial, List.forall_mem_cons.mpr ⟨trivial, List.forall_mem_cons.mpr ⟨fl_R_13, List.forall_mem_cons.mpr ⟨trivial, List.forall_mem_cons.mpr ⟨trivial, List.forall_mem_cons.mpr ⟨trivial, List.forall_mem_cons.mpr ⟨fl_R_16, List.forall_mem_cons.mpr ⟨trivial, List.forall_mem_cons.mpr ⟨trivial, List.forall_mem_cons.mpr ⟨fl_R_19, List.forall_mem_cons.mpr ⟨trivial, List.forall_mem_cons.mpr ⟨trivial, List.forall_mem_cons.mpr ⟨trivial, List.forall_mem_cons.mpr ⟨fl_R_23, List.forall_mem_cons.mpr ⟨trivial, List.forall_mem_cons.mpr ⟨trivial, List.forall_mem_cons.mpr ⟨trivial, List.forall_mem_cons.mpr ⟨fl_R_26, List.forall_mem_cons.mpr ⟨trivial, List.forall_mem_cons.mpr ⟨trivial, List.forall_mem_cons.mpr ⟨trivial, List.forall_mem_cons.mpr ⟨fl_R_29, List.forall_mem_cons.mpr ⟨trivial, List.forall_mem_cons.mpr ⟨trivial, List.forall_mem_cons.mpr ⟨trivial, List.forall_mem_cons.mpr ⟨fl_R_33, List.forall_mem_cons.mpr ⟨trivial, List.forall_mem_cons.mpr ⟨trivial, List.forall_mem_cons.mpr ⟨trivial, List.forall_mem_cons.mpr ⟨fl_R_36, List.forall_mem_cons.mpr ⟨trivial, List.forall_mem_cons.mpr ⟨trivial, List.forall_mem_cons.mpr ⟨trivial, List.forall_mem_cons.mpr ⟨fl_R_39, List.forall_mem_cons.mpr ⟨trivial, List.forall_mem_cons.mpr ⟨trivial, List.forall_mem_cons.mpr ⟨trivial, List.forall_mem_cons.mpr ⟨fl_R_42, List.forall_mem_cons.mpr ⟨trivial, List.forall_mem_cons.mpr ⟨trivial, List.forall_mem_cons.mpr ⟨trivial, List.forall_mem_cons.mpr ⟨fl_R_45, List.forall_mem_cons.mpr ⟨trivial, List.forall_mem_cons.mpr ⟨trivial, List.forall_mem_cons.mpr ⟨trivial, List.forall_mem_cons.mpr ⟨fl_R_48, List.forall_mem_cons.mpr ⟨trivial, List.forall_mem_cons.mpr ⟨trivial, List.forall_mem_cons.mpr ⟨trivial, List.forall_mem_cons.mpr ⟨fl_R_51, List.forall_mem_cons.mpr ⟨trivial, List.forall_mem_cons.mpr ⟨trivial, List.forall_mem_cons.mpr ⟨fl_R_55, List.forall_mem_cons.mpr ⟨trivial, List.forall_mem_cons.mpr ⟨trivial, List.forall_mem_cons.mpr ⟨trivial, List.forall_mem_cons.mpr ⟨trivial, List.forall_mem_cons.mpr ⟨trivial, List.forall_mem_cons.mpr ⟨trivial, List.forall_mem_cons.mpr ⟨trivial, List.forall_mem_cons.mpr ⟨trivial, List.forall_mem_cons.mpr ⟨trivial, List.forall_mem_cons.mpr ⟨trivial, List.forall_mem_cons.mpr ⟨trivial, List.forall_mem_cons.mpr ⟨trivial, List.forall_mem_cons.mpr ⟨fl_R_59, List.forall_mem_cons.mpr ⟨trivial, fun _ h => absurd h List.not_mem_nil⟩⟩⟩⟩⟩⟩⟩⟩⟩⟩⟩⟩⟩⟩⟩⟩⟩⟩⟩⟩⟩⟩⟩⟩⟩⟩⟩⟩⟩⟩⟩⟩⟩⟩⟩⟩⟩⟩⟩⟩⟩⟩⟩⟩⟩⟩⟩⟩⟩⟩⟩⟩⟩⟩⟩⟩⟩⟩⟩⟩⟩⟩⟩⟩⟩⟩⟩⟩⟩⟩⟩⟩⟩⟩⟩
theorem cw_R_init : cl_I M_R_init 1 := ⟨⟨wd_375, wd_5, ⟨by decide, by decide⟩, by decide +kernel⟩, wd_374, rfl, rfl⟩
def T_R_isCell : List En := [(0, .iload_n 1, 1, 1, 0, 0), (1, .ifCond .lt 15, 3, 4, 16, 0), (4, .iload_n 1, 1, 5, 0, 0), (5, .aload_n 0, 1, 6, 0, 0), (6, .getfield 59, 3, 9, 4, 0), (9, .if_icmp .ge 7, 3, 12, 16, 0), (12, .iconst 1, 1, 13, 0, 0), (13, .goto 4, 3, 16, 17, 0), (16, .iconst 0, 1, 17, 0, 0), (17, .ireturn, 1, 18, 0, 0)]
def M_R_isCell : Md := (⟨"SearchGridsModel", "isCell", "(I)Z"⟩, prog_6_method_2_code, 2, some .boolean, T_R_isCell)
theorem ok_R_isCell : md_ok M_R_isCell := ⟨by decide +kernel, List.forall_mem_cons.mpr ⟨trivial, List.forall_mem_cons.mpr ⟨trivial, List.forall_mem_cons.mpr ⟨trivial, List.forall_mem_cons.mpr ⟨trivial, List.forall_mem_cons.mpr ⟨fl_R_59, List.forall_mem_cons.mpr ⟨trivial, List.forall_mem_cons.mpr ⟨trivial, List.forall_mem_cons.mpr ⟨trivial, List.forall_mem_cons.mpr ⟨trivial, List.forall_mem_cons.mpr ⟨trivial, fun _ h => absurd h List.not_mem_nil⟩⟩⟩⟩⟩⟩⟩⟩⟩⟩⟩
theorem cw_R_isCell : cl_V M_R_isCell 1 := ⟨⟨wd_453, wd_5, ⟨by decide, by decide⟩, by decide +kernel⟩, wd_452, sl_22⟩
def T_R_isLooker : List En := [(0, .iload_n 1, 1, 1, 0, 0), (1, .ifCond .lt 15, 3, 4, 16, 0), (4, .iload_n 1, 1, 5, 0, 0), (5, .aload_n 0, 1, 6, 0, 0), (6, .getfield 62, 3, 9, 4, 6), (9, .if_icmp .ge 7, 3, 12, 16, 0), (12, .iconst 1, 1, 13, 0, 0), (13, .goto 4, 3, 16, 17, 0), (16, .iconst 0, 1, 17, 0, 0), (17, .ireturn, 1, 18, 0, 0)]
def M_R_isLooker : Md := (⟨"SearchGridsModel", "isLooker", "(I)Z"⟩, prog_6_method_3_code, 2, some .boolean, T_R_isLooker)
theorem ok_R_isLooker : md_ok M_R_isLooker := ⟨by decide +kernel, List.forall_mem_cons.mpr ⟨trivial, List.forall_mem_cons.mpr ⟨trivial, List.forall_mem_cons.mpr ⟨trivial, List.forall_mem_cons.mpr ⟨trivial, List.forall_mem_cons.mpr ⟨fl_R_62, List.forall_mem_cons.mpr ⟨trivial, List.forall_mem_cons.mpr ⟨trivial, List.forall_mem_cons.mpr ⟨trivial, List.forall_mem_cons.mpr ⟨trivial, List.forall_mem_cons.mpr ⟨trivial, fun _ h => absurd h List.not_mem_nil⟩⟩⟩⟩⟩⟩⟩⟩⟩⟩⟩
theorem cw_R_isLooker : cl_V M_R_isLooker 1 := ⟨⟨wd_487, wd_5, ⟨by decide, by decide⟩, by decide +kernel⟩, wd_486, sl_27⟩
def T_R_place : List En := [(0, .iconst 0, 1, 1, 0, 0), (1, .istore_n 2, 1, 2, 0, 0), (2, .iload_n 2, 1, 3, 0, 0), (3, .aload_n 0, 1, 4, 0, 0), (4, .getfield 65, 3, 7, 4, 1), (7, .if_icmp .ge 21, 3, 10, 28, 0), (10, .aload_n 0, 1, 11, 0, 0), (11, .getfield 7, 3, 14, 4, 2), (14, .iload_n 2, 1, 15, 0, 0), (15, .iaload, 1, 16, 0, 0), (16, .iload_n 1, 1, 17, 0, 0), (17, .if_icmp .ne 5, 3, 20, 22, 0), (20, .iload_n 2, 1, 21, 0, 0), (21, .ireturn, 1, 22, 0, 0), (22, .iinc 2 1, 3, 25, 0, 0), (25, .goto (-23), 3, 28, 2, 0), (28, .iconst (-1), 1, 29, 0, 0), (29, .ireturn, 1, 30, 0, 0)]
def M_R_place : Md := (⟨"SearchGridsModel", "place", "(I)I"⟩, prog_6_method_4_code, 3, some .int, T_R_place)
theorem ok_R_place : md_ok M_R_place := ⟨by decide +kernel, List.forall_mem_cons.mpr ⟨trivial, List.forall_mem_cons.mpr ⟨trivial, List.forall_mem_cons.mpr ⟨trivial, List.forall_mem_cons.mpr ⟨trivial, List.forall_mem_cons.mpr ⟨fl_R_65, List.forall_mem_cons.mpr ⟨trivial, List.forall_mem_cons.mpr ⟨trivial, List.forall_mem_cons.mpr ⟨fl_R_7, List.forall_mem_cons.mpr ⟨trivial, List.forall_mem_cons.mpr ⟨trivial, List.forall_mem_cons.mpr ⟨trivial, List.forall_mem_cons.mpr ⟨trivial, List.forall_mem_cons.mpr ⟨trivial, List.forall_mem_cons.mpr ⟨trivial, List.forall_mem_cons.mpr ⟨trivial, List.forall_mem_cons.mpr ⟨trivial, List.forall_mem_cons.mpr ⟨trivial, List.forall_mem_cons.mpr ⟨trivial, fun _ h => absurd h List.not_mem_nil⟩⟩⟩⟩⟩⟩⟩⟩⟩⟩⟩⟩⟩⟩⟩⟩⟩⟩⟩
theorem cw_R_place : cl_V M_R_place 1 := ⟨⟨wd_458, wd_5, ⟨by decide, by decide⟩, by decide +kernel⟩, wd_457, sl_23⟩
def T_R_tell : List En := [(0, .aload_n 0, 1, 1, 0, 0), (1, .iload_n 1, 1, 2, 0, 0), (2, .invokevirtual 68, 3, 5, 0, 0), (5, .istore_n 2, 1, 6, 0, 0), (6, .iload_n 2, 1, 7, 0, 0), (7, .iconst (-1), 1, 8, 0, 0), (8, .if_icmp .eq 5, 3, 11, 13, 0), (11, .iload_n 2, 1, 12, 0, 0), (12, .ireturn, 1, 13, 0, 0), (13, .aload_n 0, 1, 14, 0, 0), (14, .getfield 65, 3, 17, 4, 1), (17, .istore_n 3, 1, 18, 0, 0), (18, .iload_n 3, 1, 19, 0, 0), (19, .ifCond .le 29, 3, 22, 48, 0), (22, .aload_n 0, 1, 23, 0, 0), (23, .getfield 7, 3, 26, 4, 2), (26, .iload_n 3, 1, 27, 0, 0), (27, .iconst 1, 1, 28, 0, 0), (28, .isub, 1, 29, 0, 0), (29, .iaload, 1, 30, 0, 0), (30, .iload_n 1, 1, 31, 0, 0), (31, .if_icmp .le 17, 3, 34, 48, 0), (34, .aload_n 0, 1, 35, 0, 0), (35, .iload_n 3, 1, 36, 0, 0), (36, .iconst 1, 1, 37, 0, 0), (37, .isub, 1, 38, 0, 0), (38, .iload_n 3, 1, 39, 0, 0), (39, .invokevirtual 72, 3, 42, 0, 0), (42, .iinc 3 (-1), 3, 45, 0, 0), (45, .goto (-27), 3, 48, 18, 0), (48, .aload_n 0, 1, 49, 0, 0), (49, .getfield 7, 3, 52, 4, 2), (52, .iload_n 3, 1, 53, 0, 0), (53, .iload_n 1, 1, 54, 0, 0), (54, .iastore, 1, 55, 0, 0), (55, .aload_n 0, 1, 56, 0, 0), (56, .getfield 13, 3, 59, 4, 3), (59, .iload_n 3, 1, 60, 0, 0), (60, .bipush 60, 2, 62, 0, 0), (62, .iastore, 1, 63, 0, 0), (63, .iconst 0, 1, 64, 0, 0), (64, .istore 4, 2, 66, 0, 0), (66, .iload 4, 2, 68, 0, 0), (68, .iconst 4, 1, 69, 0, 0), (69, .if_icmp .ge 35, 3, 72, 104, 0), (72, .aload_n 0, 1, 73, 0, 0), (73, .getfield 16, 3, 76, 4, 4), (76, .bipush 40, 2, 78, 0, 0), (78, .iload 4, 2, 80, 0, 0), (80, .imul, 1, 81, 0, 0), (81, .iload_n 3, 1, 82, 0, 0), (82, .iadd, 1, 83, 0, 0), (83, .iconst 0, 1, 84, 0, 0), (84, .iastore, 1, 85, 0, 0), (85, .aload_n 0, 1, 86, 0, 0), (86, .getfield 39, 3, 89, 4, 12), (89, .bipush 40, 2, 91, 0, 0), (91, .iload 4, 2, 93, 0, 0), (93, .imul, 1, 94, 0, 0), (94, .iload_n 3, 1, 95, 0, 0), (95, .iadd, 1, 96, 0, 0), (96, .iconst 0, 1, 97, 0, 0), (97, .iastore, 1, 98, 0, 0), (98, .iinc 4 1, 3, 101, 0, 0), (101, .goto (-35), 3, 104, 66, 0), (104, .aload_n 0, 1, 105, 0, 0), (105, .dup, 1, 106, 0, 0), (106, .getfield 65, 3, 109, 4, 1), (109, .iconst 1, 1, 110, 0, 0), (110, .iadd, 1, 111, 0, 0), (111, .putfield 65, 3, 114, 4, 1), (114, .iload_n 3, 1, 115, 0, 0), (115, .ireturn, 1, 116, 0, 0)]
def M_R_tell : Md := (⟨"SearchGridsModel", "tell", "(I)I"⟩, prog_6_method_5_code, 5, some .int, T_R_tell)
theorem ok_R_tell : md_ok M_R_tell := ⟨by decide +kernel, List.forall_mem_cons.mpr ⟨trivial, List.forall_mem_cons.mpr ⟨trivial, List.forall_mem_cons.mpr ⟨trivial, List.forall_mem_cons.mpr ⟨trivial, List.forall_mem_cons.mpr ⟨trivial, List.forall_mem_cons.mpr ⟨trivial, List.forall_mem_cons.mpr ⟨trivial, List.forall_mem_cons.mpr ⟨trivial, List.forall_mem_cons.mpr ⟨trivial, List.forall_mem_cons.mpr ⟨trivial, List.forall_mem_cons.mpr ⟨fl_R_65, List.forall_mem_cons.mpr ⟨trivial, List.forall_mem_cons.mpr ⟨trivial, List.forall_mem_cons.mpr ⟨trivial, List.forall_mem_cons.mpr ⟨trivial, List.forall_mem_cons.mpr ⟨fl_R_7, List.forall_mem_cons.mpr ⟨trivial, List.forall_mem_cons.mpr ⟨trivial, List.forall_mem_cons.mpr ⟨trivial, List.forall_mem_cons.mpr ⟨trivial, List.forall_mem_cons.mpr ⟨trivial, List.forall_mem_cons.mpr ⟨trivial, List.forall_mem_cons.mpr ⟨trivial, List.forall_mem_cons.mpr ⟨trivial, List.forall_mem_cons.mpr ⟨trivial, List.forall_mem_cons.mpr ⟨trivial, List.forall_mem_cons.mpr ⟨trivial, List.forall_mem_cons.mpr ⟨trivial, List.forall_mem_cons.mpr ⟨trivial, List.forall_mem_cons.mpr ⟨trivial, List.forall_mem_cons.mpr ⟨trivial, List.forall_mem_cons.mpr ⟨fl_R_7, List.forall_mem_cons.mpr ⟨trivial, List.forall_mem_cons.mpr ⟨trivial, List.forall_mem_cons.mpr ⟨trivial, List.forall_mem_cons.mpr ⟨trivial, List.forall_mem_cons.mpr ⟨fl_R_13, List.forall_mem_cons.mpr ⟨trivial, List.forall_mem_cons.mpr ⟨trivial, List.forall_mem_cons.mpr ⟨trivial, List.forall_mem_cons.mpr ⟨trivial, List.forall_mem_cons.mpr ⟨trivial, List.forall_mem_cons.mpr ⟨trivial, List.forall_mem_cons.mpr ⟨trivial, List.forall_mem_cons.mpr ⟨trivial, List.forall_mem_cons.mpr ⟨trivial, List.forall_mem_cons.mpr ⟨fl_R_16, List.forall_mem_cons.mpr ⟨trivial, List.forall_mem_cons.mpr ⟨trivial, List.forall_mem_cons.mpr ⟨trivial, List.forall_mem_cons.mpr ⟨trivial, List.forall_mem_cons.mpr ⟨trivial, List.forall_mem_cons.mpr ⟨trivial, List.forall_mem_cons.mpr ⟨trivial, List.forall_mem_cons.mpr ⟨trivial, List.forall_mem_cons.mpr ⟨fl_R_39, List.forall_mem_cons.mpr ⟨trivial, List.forall_mem_cons.mpr ⟨trivial, List.forall_mem_cons.mpr ⟨trivial, List.forall_mem_cons.mpr ⟨trivial, List.forall_mem_cons.mpr ⟨trivial, List.forall_mem_cons.mpr ⟨trivial, List.forall_mem_cons.mpr ⟨trivial, List.forall_mem_cons.mpr ⟨trivial, List.forall_mem_cons.mpr ⟨trivial, List.forall_mem_cons.mpr ⟨trivial, List.forall_mem_cons.mpr ⟨trivial, List.forall_mem_cons.mpr ⟨fl_R_65, List.forall_mem_cons.mpr ⟨trivial, List.forall_mem_cons.mpr ⟨trivial, List.forall_mem_cons.mpr ⟨fl_R_65, List.forall_mem_cons.mpr ⟨trivial, List.forall_mem_cons.mpr ⟨trivial, fun _ h => absurd h List.not_mem_nil⟩⟩⟩⟩⟩⟩⟩⟩⟩⟩⟩⟩⟩⟩⟩⟩⟩⟩⟩⟩⟩⟩⟩⟩⟩⟩⟩⟩⟩⟩⟩⟩⟩⟩⟩⟩⟩⟩⟩⟩⟩⟩⟩⟩⟩⟩⟩⟩⟩⟩⟩⟩⟩⟩⟩⟩⟩⟩⟩⟩⟩⟩⟩⟩⟩⟩⟩⟩⟩⟩⟩⟩⟩⟩
theorem cw_R_tell : cl_V M_R_tell 1 := ⟨⟨wd_462, wd_5, ⟨by decide, by decide⟩, by decide +kernel⟩, wd_461, sl_24⟩
def T_R_move : List En := [(0, .aload_n 0, 1, 1, 0, 0), (1, .getfield 7, 3, 4, 4, 2), (4, .iload_n 2, 1, 5, 0, 0), (5, .aload_n 0, 1, 6, 0, 0), (6, .getfield 7, 3, 9, 4, 2), (9, .iload_n 1, 1, 10, 0, 0), (10, .iaload, 1, 11, 0, 0), (11, .iastore, 1, 12, 0, 0), (12, .aload_n 0, 1, 13, 0, 0), (13, .getfield 13, 3, 16, 4, 3), (16, .iload_n 2, 1, 17, 0, 0), (17, .aload_n 0, 1, 18, 0, 0), (18, .getfield 13, 3, 21, 4, 3), (21, .iload_n 1, 1, 22, 0, 0), (22, .iaload, 1, 23, 0, 0), (23, .iastore, 1, 24, 0, 0), (24, .iconst 0, 1, 25, 0, 0), (25, .istore_n 3, 1, 26, 0, 0), (26, .iload_n 3, 1, 27, 0, 0), (27, .iconst 4, 1, 28, 0, 0), (28, .if_icmp .ge 53, 3, 31, 81, 0), (31, .aload_n 0, 1, 32, 0, 0), (32, .getfield 16, 3, 35, 4, 4), (35, .bipush 40, 2, 37, 0, 0), (37, .iload_n 3, 1, 38, 0, 0), (38, .imul, 1, 39, 0, 0), (39, .iload_n 2, 1, 40, 0, 0), (40, .iadd, 1, 41, 0, 0), (41, .aload_n 0, 1, 42, 0, 0), (42, .getfield 16, 3, 45, 4, 4), (45, .bipush 40, 2, 47, 0, 0), (47, .iload_n 3, 1, 48, 0, 0), (48, .imul, 1, 49, 0, 0), (49, .iload_n 1, 1, 50, 0, 0), (50, .iadd, 1, 51, 0, 0), (51, .iaload, 1, 52, 0, 0), (52, .iastore, 1, 53, 0, 0), (53, .aload_n 0, 1, 54, 0, 0), (54, .getfield 39, 3, 57, 4, 12), (57, .bipush 40, 2, 59, 0, 0), (59, .iload_n 3, 1, 60, 0, 0), (60, .imul, 1, 61, 0, 0), (61, .iload_n 2, 1, 62, 0, 0), (62, .iadd, 1, 63, 0, 0), (63, .aload_n 0, 1, 64, 0, 0), (64, .getfield 39, 3, 67, 4, 12), (67, .bipush 40, 2, 69, 0, 0), (69, .iload_n 3, 1, 70, 0, 0), (70, .imul, 1, 71, 0, 0), (71, .iload_n 1, 1, 72, 0, 0), (72, .iadd, 1, 73, 0, 0), (73, .iaload, 1, 74, 0, 0), (74, .iastore, 1, 75, 0, 0), (75, .iinc 3 1, 3, 78, 0, 0), (78, .goto (-52), 3, 81, 26, 0), (81, .return_, 1, 82, 0, 0)]
def M_R_move : Md := (⟨"SearchGridsModel", "move", "(II)V"⟩, prog_6_method_6_code, 4, none, T_R_move)
theorem ok_R_move : md_ok M_R_move := ⟨by decide +kernel, List.forall_mem_cons.mpr ⟨trivial, List.forall_mem_cons.mpr ⟨fl_R_7, List.forall_mem_cons.mpr ⟨trivial, List.forall_mem_cons.mpr ⟨trivial, List.forall_mem_cons.mpr ⟨fl_R_7, List.forall_mem_cons.mpr ⟨trivial, List.forall_mem_cons.mpr ⟨trivial, List.forall_mem_cons.mpr ⟨trivial, List.forall_mem_cons.mpr ⟨trivial, List.forall_mem_cons.mpr ⟨fl_R_13, List.forall_mem_cons.mpr ⟨trivial, List.forall_mem_cons.mpr ⟨trivial, List.forall_mem_cons.mpr ⟨fl_R_13, List.forall_mem_cons.mpr ⟨trivial, List.forall_mem_cons.mpr ⟨trivial, List.forall_mem_cons.mpr ⟨trivial, List.forall_mem_cons.mpr ⟨trivial, List.forall_mem_cons.mpr ⟨trivial, List.forall_mem_cons.mpr ⟨trivial, List.forall_mem_cons.mpr ⟨trivial, List.forall_mem_cons.mpr ⟨trivial, List.forall_mem_cons.mpr ⟨trivial, List.forall_mem_cons.mpr ⟨fl_R_16, List.forall_mem_cons.mpr ⟨trivial, List.forall_mem_cons.mpr ⟨trivial, List.forall_mem_cons.mpr ⟨trivial, List.forall_mem_cons.mpr ⟨trivial, List.forall_mem_cons.mpr ⟨trivial, List.forall_mem_cons.mpr ⟨trivial, List.forall_mem_cons.mpr ⟨fl_R_16, List.forall_mem_cons.mpr ⟨trivial, List.forall_mem_cons.mpr ⟨trivial, List.forall_mem_cons.mpr ⟨trivial, List.forall_mem_cons.mpr ⟨trivial, List.forall_mem_cons.mpr ⟨trivial, List.forall_mem_cons.mpr ⟨trivial, List.forall_mem_cons.mpr ⟨trivial, List.forall_mem_cons.mpr ⟨trivial, List.forall_mem_cons.mpr ⟨fl_R_39, List.forall_mem_cons.mpr ⟨trivial, List.forall_mem_cons.mpr ⟨trivial, List.forall_mem_cons.mpr ⟨trivial, List.forall_mem_cons.mpr ⟨trivial, List.forall_mem_cons.mpr ⟨trivial, List.forall_mem_cons.mpr ⟨trivial, List.forall_mem_cons.mpr ⟨fl_R_39, List.forall_mem_cons.mpr ⟨trivial, List.forall_mem_cons.mpr ⟨trivial, List.forall_mem_cons.mpr ⟨trivial, List.forall_mem_cons.mpr ⟨trivial, List.forall_mem_cons.mpr ⟨trivial, List.forall_mem_cons.mpr ⟨trivial, List.forall_mem_cons.mpr ⟨trivial, List.forall_mem_cons.mpr ⟨trivial, List.forall_mem_cons.mpr ⟨trivial, List.forall_mem_cons.mpr ⟨trivial, fun _ h => absurd h List.not_mem_nil⟩⟩⟩⟩⟩⟩⟩⟩⟩⟩⟩⟩⟩⟩⟩⟩⟩⟩⟩⟩⟩⟩⟩⟩⟩⟩⟩⟩⟩⟩⟩⟩⟩⟩⟩⟩⟩⟩⟩⟩⟩⟩⟩⟩⟩⟩⟩⟩⟩⟩⟩⟩⟩⟩⟩⟩⟩
theorem cw_R_move : cl_V M_R_move 2 := ⟨⟨wd_466, wd_5, ⟨by decide, by decide⟩, by decide +kernel⟩, wd_465, sl_25⟩
def T_R_changed : List En := [(0, .iconst 0, 1, 1, 0, 0), (1, .istore_n 1, 1, 2, 0, 0), (2, .iload_n 1, 1, 3, 0, 0), (3, .sipush 160, 3, 6, 0, 0), (6, .if_icmp .ge 16, 3, 9, 22, 0), (9, .aload_n 0, 1, 10, 0, 0), (10, .getfield 33, 3, 13, 4, 10), (13, .iload_n 1, 1, 14, 0, 0), (14, .iconst 0, 1, 15, 0, 0), (15, .iastore, 1, 16, 0, 0), (16, .iinc 1 1, 3, 19, 0, 0), (19, .goto (-17), 3, 22, 2, 0), (22, .return_, 1, 23, 0, 0)]
def M_R_changed : Md := (⟨"SearchGridsModel", "changed", "()V"⟩, prog_6_method_7_code, 2, none, T_R_changed)
theorem ok_R_changed : md_ok M_R_changed := ⟨by decide +kernel, List.forall_mem_cons.mpr ⟨trivial, List.forall_mem_cons.mpr ⟨trivial, List.forall_mem_cons.mpr ⟨trivial, List.forall_mem_cons.mpr ⟨trivial, List.forall_mem_cons.mpr ⟨trivial, List.forall_mem_cons.mpr ⟨trivial, List.forall_mem_cons.mpr ⟨fl_R_33, List.forall_mem_cons.mpr ⟨trivial, List.forall_mem_cons.mpr ⟨trivial, List.forall_mem_cons.mpr ⟨trivial, List.forall_mem_cons.mpr ⟨trivial, List.forall_mem_cons.mpr ⟨trivial, List.forall_mem_cons.mpr ⟨trivial, fun _ h => absurd h List.not_mem_nil⟩⟩⟩⟩⟩⟩⟩⟩⟩⟩⟩⟩⟩⟩
theorem cw_R_changed : cl_V M_R_changed 0 := ⟨⟨wd_470, wd_5, ⟨by decide, by decide⟩, by decide +kernel⟩, wd_469, sl_26⟩
def T_R_counts : List En := [(0, .aload_n 0, 1, 1, 0, 0), (1, .iconst 0, 1, 2, 0, 0), (2, .iload_n 1, 1, 3, 0, 0), (3, .lload_n 2, 1, 4, 0, 0), (4, .invokevirtual 76, 3, 7, 0, 0), (7, .ireturn, 1, 8, 0, 0)]
def M_R_counts : Md := (⟨"SearchGridsModel", "counts", "(IJ)Z"⟩, prog_6_method_8_code, 4, some .boolean, T_R_counts)
theorem ok_R_counts : md_ok M_R_counts := ⟨by decide +kernel, List.forall_mem_cons.mpr ⟨trivial, List.forall_mem_cons.mpr ⟨trivial, List.forall_mem_cons.mpr ⟨trivial, List.forall_mem_cons.mpr ⟨trivial, List.forall_mem_cons.mpr ⟨trivial, List.forall_mem_cons.mpr ⟨trivial, fun _ h => absurd h List.not_mem_nil⟩⟩⟩⟩⟩⟩⟩
theorem cw_R_counts : cl_V M_R_counts 2 := ⟨⟨wd_445, wd_5, ⟨by decide, by decide⟩, by decide +kernel⟩, wd_443, wd_444⟩
def T_R_countsOf : List En := [(0, .iload_n 1, 1, 1, 0, 0), (1, .ifCond .lt 59, 3, 4, 60, 0), (4, .iload_n 1, 1, 5, 0, 0), (5, .aload_n 0, 1, 6, 0, 0), (6, .getfield 19, 3, 9, 4, 5), (9, .if_icmp .ge 51, 3, 12, 60, 0), (12, .aload_n 0, 1, 13, 0, 0), (13, .iload_n 2, 1, 14, 0, 0), (14, .invokevirtual 80, 3, 17, 0, 0), (17, .ifCond .eq 43, 3, 20, 60, 0), (20, .aload_n 0, 1, 21, 0, 0), (21, .getfield 55, 3, 24, 4, 18), (24, .iconst (-1), 1, 25, 0, 0), (25, .if_icmp .ne 35, 3, 28, 60, 0), (28, .lload_n 3, 1, 29, 0, 0), (29, .lconst 0, 1, 30, 0, 0), (30, .lcmp, 1, 31, 0, 0), (31, .ifCond .lt 29, 3, 34, 60, 0), (34, .lload_n 3, 1, 35, 0, 0), (35, .ldc2_w 84, 3, 38, 0, 0), (38, .lcmp, 1, 39, 0, 0), (39, .ifCond .gt 21, 3, 42, 60, 0), (42, .aload_n 0, 1, 43, 0, 0), (43, .iload_n 2, 1, 44, 0, 0), (44, .invokevirtual 68, 3, 47, 0, 0), (47, .iconst (-1), 1, 48, 0, 0), (48, .if_icmp .ne 14, 3, 51, 62, 0), (51, .aload_n 0, 1, 52, 0, 0), (52, .getfield 65, 3, 55, 4, 1), (55, .bipush 40, 2, 57, 0, 0), (57, .if_icmp .ne 5, 3, 60, 62, 0), (60, .iconst 0, 1, 61, 0, 0), (61, .ireturn, 1, 62, 0, 0), (62, .aload_n 0, 1, 63, 0, 0), (63, .iload_n 2, 1, 64, 0, 0), (64, .invokevirtual 86, 3, 67, 0, 0), (67, .istore 5, 2, 69, 0, 0), (69, .aload_n 0, 1, 70, 0, 0), (70, .getfield 16, 3, 73, 4, 4), (73, .bipush 40, 2, 75, 0, 0), (75, .iload_n 1, 1, 76, 0, 0), (76, .imul, 1, 77, 0, 0), (77, .iload 5, 2, 79, 0, 0), (79, .iadd, 1, 80, 0, 0), (80, .lload_n 3, 1, 81, 0, 0), (81, .l2i, 1, 82, 0, 0), (82, .iastore, 1, 83, 0, 0), (83, .aload_n 0, 1, 84, 0, 0), (84, .invokevirtual 89, 3, 87, 0, 0), (87, .iconst 1, 1, 88, 0, 0), (88, .ireturn, 1, 89, 0, 0)]
def M_R_countsOf : Md := (⟨"SearchGridsModel", "countsOf", "(IIJ)Z"⟩, prog_6_method_9_code, 6, some .boolean, T_R_countsOf)
theorem ok_R_countsOf : md_ok M_R_countsOf := ⟨by decide +kernel, List.forall_mem_cons.mpr ⟨trivial, List.forall_mem_cons.mpr ⟨trivial, List.forall_mem_cons.mpr ⟨trivial, List.forall_mem_cons.mpr ⟨trivial, List.forall_mem_cons.mpr ⟨fl_R_19, List.forall_mem_cons.mpr ⟨trivial, List.forall_mem_cons.mpr ⟨trivial, List.forall_mem_cons.mpr ⟨trivial, List.forall_mem_cons.mpr ⟨trivial, List.forall_mem_cons.mpr ⟨trivial, List.forall_mem_cons.mpr ⟨trivial, List.forall_mem_cons.mpr ⟨fl_R_55, List.forall_mem_cons.mpr ⟨trivial, List.forall_mem_cons.mpr ⟨trivial, List.forall_mem_cons.mpr ⟨trivial, List.forall_mem_cons.mpr ⟨trivial, List.forall_mem_cons.mpr ⟨trivial, List.forall_mem_cons.mpr ⟨trivial, List.forall_mem_cons.mpr ⟨trivial, List.forall_mem_cons.mpr ⟨trivial, List.forall_mem_cons.mpr ⟨trivial, List.forall_mem_cons.mpr ⟨trivial, List.forall_mem_cons.mpr ⟨trivial, List.forall_mem_cons.mpr ⟨trivial, List.forall_mem_cons.mpr ⟨trivial, List.forall_mem_cons.mpr ⟨trivial, List.forall_mem_cons.mpr ⟨trivial, List.forall_mem_cons.mpr ⟨trivial, List.forall_mem_cons.mpr ⟨fl_R_65, List.forall_mem_cons.mpr ⟨trivial, List.forall_mem_cons.mpr ⟨trivial, List.forall_mem_cons.mpr ⟨trivial, List.forall_mem_cons.mpr ⟨trivial, List.forall_mem_cons.mpr ⟨trivial, List.forall_mem_cons.mpr ⟨trivial, List.forall_mem_cons.mpr ⟨trivial, List.forall_mem_cons.mpr ⟨trivial, List.forall_mem_cons.mpr ⟨trivial, List.forall_mem_cons.mpr ⟨fl_R_16, List.forall_mem_cons.mpr ⟨trivial, List.forall_mem_cons.mpr ⟨trivial, List.forall_mem_cons.mpr ⟨trivial, List.forall_mem_cons.mpr ⟨trivial, List.forall_mem_cons.mpr ⟨trivial, List.forall_mem_cons.mpr ⟨trivial, List.forall_mem_cons.mpr ⟨trivial, List.forall_mem_cons.mpr ⟨trivial, List.forall_mem_cons.mpr ⟨trivial, List.forall_mem_cons.mpr ⟨trivial, List.forall_mem_cons.mpr ⟨trivial, List.forall_mem_cons.mpr ⟨trivial, fun _ h => absurd h List.not_mem_nil⟩⟩⟩⟩⟩⟩⟩⟩⟩⟩⟩⟩⟩⟩⟩⟩⟩⟩⟩⟩⟩⟩⟩⟩⟩⟩⟩⟩⟩⟩⟩⟩⟩⟩⟩⟩⟩⟩⟩⟩⟩⟩⟩⟩⟩⟩⟩⟩⟩⟩⟩⟩
theorem cw_R_countsOf : cl_V M_R_countsOf 3 := ⟨⟨wd_449, wd_5, ⟨by decide, by decide⟩, by decide +kernel⟩, wd_447, wd_448⟩
def T_R_looker : List En := [(0, .aload_n 0, 1, 1, 0, 0), (1, .getfield 62, 3, 4, 4, 6), (4, .iconst 4, 1, 5, 0, 0), (5, .if_icmp .eq 61, 3, 8, 66, 0), (8, .aload_n 0, 1, 9, 0, 0), (9, .getfield 92, 3, 12, 4, 13), (12, .ifCond .gt 54, 3, 15, 66, 0), (15, .lload_n 1, 1, 16, 0, 0), (16, .lconst 1, 1, 17, 0, 0), (17, .lcmp, 1, 18, 0, 0), (18, .ifCond .lt 48, 3, 21, 66, 0), (21, .lload_n 1, 1, 22, 0, 0), (22, .ldc2_w 84, 3, 25, 0, 0), (25, .lcmp, 1, 26, 0, 0), (26, .ifCond .gt 40, 3, 29, 66, 0), (29, .lload_n 3, 1, 30, 0, 0), (30, .lconst 1, 1, 31, 0, 0), (31, .lcmp, 1, 32, 0, 0), (32, .ifCond .lt 34, 3, 35, 66, 0), (35, .lload_n 3, 1, 36, 0, 0), (36, .ldc2_w 84, 3, 39, 0, 0), (39, .lcmp, 1, 40, 0, 0), (40, .ifCond .gt 26, 3, 43, 66, 0), (43, .lload_n 1, 1, 44, 0, 0), (44, .lload_n 3, 1, 45, 0, 0), (45, .lmul, 1, 46, 0, 0), (46, .ldc2_w 84, 3, 49, 0, 0), (49, .lcmp, 1, 50, 0, 0), (50, .ifCond .gt 16, 3, 53, 66, 0), (53, .iload 5, 2, 55, 0, 0), (55, .iconst 1, 1, 56, 0, 0), (56, .if_icmp .lt 10, 3, 59, 66, 0), (59, .iload 5, 2, 61, 0, 0), (61, .bipush 24, 2, 63, 0, 0), (63, .if_icmp .le 5, 3, 66, 68, 0), (66, .iconst (-1), 1, 67, 0, 0), (67, .ireturn, 1, 68, 0, 0), (68, .aload_n 0, 1, 69, 0, 0), (69, .getfield 23, 3, 72, 4, 7), (72, .aload_n 0, 1, 73, 0, 0), (73, .getfield 62, 3, 76, 4, 6), (76, .lload_n 1, 1, 77, 0, 0), (77, .lload_n 3, 1, 78, 0, 0), (78, .lmul, 1, 79, 0, 0), (79, .l2i, 1, 80, 0, 0), (80, .iastore, 1, 81, 0, 0), (81, .aload_n 0, 1, 82, 0, 0), (82, .getfield 26, 3, 85, 4, 8), (85, .aload_n 0, 1, 86, 0, 0), (86, .getfield 62, 3, 89, 4, 6), (89, .iload 5, 2, 91, 0, 0), (91, .iastore, 1, 92, 0, 0), (92, .aload_n 0, 1, 93, 0, 0), (93, .dup, 1, 94, 0, 0), (94, .getfield 62, 3, 97, 4, 6), (97, .iconst 1, 1, 98, 0, 0), (98, .iadd, 1, 99, 0, 0), (99, .putfield 62, 3, 102, 4, 6), (102, .aload_n 0, 1, 103, 0, 0), (103, .invokevirtual 89, 3, 106, 0, 0), (106, .aload_n 0, 1, 107, 0, 0), (107, .getfield 62, 3, 110, 4, 6), (110, .iconst 1, 1, 111, 0, 0), (111, .isub, 1, 112, 0, 0), (112, .ireturn, 1, 113, 0, 0)]
def M_R_looker : Md := (⟨"SearchGridsModel", "looker", "(JJI)I"⟩, prog_6_method_10_code, 6, some .int, T_R_looker)
theorem ok_R_looker : md_ok M_R_looker := ⟨by decide +kernel, List.forall_mem_cons.mpr ⟨trivial, List.forall_mem_cons.mpr ⟨fl_R_62, List.forall_mem_cons.mpr ⟨trivial, List.forall_mem_cons.mpr ⟨trivial, List.forall_mem_cons.mpr ⟨trivial, List.forall_mem_cons.mpr ⟨fl_R_92, List.forall_mem_cons.mpr ⟨trivial, List.forall_mem_cons.mpr ⟨trivial, List.forall_mem_cons.mpr ⟨trivial, List.forall_mem_cons.mpr ⟨trivial, List.forall_mem_cons.mpr ⟨trivial, List.forall_mem_cons.mpr ⟨trivial, List.forall_mem_cons.mpr ⟨trivial, List.forall_mem_cons.mpr ⟨trivial, List.forall_mem_cons.mpr ⟨trivial, List.forall_mem_cons.mpr ⟨trivial, List.forall_mem_cons.mpr ⟨trivial, List.forall_mem_cons.mpr ⟨trivial, List.forall_mem_cons.mpr ⟨trivial, List.forall_mem_cons.mpr ⟨trivial, List.forall_mem_cons.mpr ⟨trivial, List.forall_mem_cons.mpr ⟨trivial, List.forall_mem_cons.mpr ⟨trivial, List.forall_mem_cons.mpr ⟨trivial, List.forall_mem_cons.mpr ⟨trivial, List.forall_mem_cons.mpr ⟨trivial, List.forall_mem_cons.mpr ⟨trivial, List.forall_mem_cons.mpr ⟨trivial, List.forall_mem_cons.mpr ⟨trivial, List.forall_mem_cons.mpr ⟨trivial, List.forall_mem_cons.mpr ⟨trivial, List.forall_mem_cons.mpr ⟨trivial, List.forall_mem_cons.mpr ⟨trivial, List.forall_mem_cons.mpr ⟨trivial, List.forall_mem_cons.mpr ⟨trivial, List.forall_mem_cons.mpr ⟨trivial, List.forall_mem_cons.mpr ⟨trivial, List.forall_mem_cons.mpr ⟨trivial, List.forall_mem_cons.mpr ⟨fl_R_23, List.forall_mem_cons.mpr ⟨trivial, List.forall_mem_cons.mpr ⟨fl_R_62, List.forall_mem_cons.mpr ⟨trivial, List.forall_mem_cons.mpr ⟨trivial, List.forall_mem_cons.mpr ⟨trivial, List.forall_mem_cons.mpr ⟨trivial, List.forall_mem_cons.mpr ⟨trivial, List.forall_mem_cons.mpr ⟨trivial, List.forall_mem_cons.mpr ⟨fl_R_26, List.forall_mem_cons.mpr ⟨trivial, List.forall_mem_cons.mpr ⟨fl_R_62, List.forall_mem_cons.mpr ⟨trivial, List.forall_mem_cons.mpr ⟨trivial, List.forall_mem_cons.mpr ⟨trivial, List.forall_mem_cons.mpr ⟨trivial, List.forall_mem_cons.mpr ⟨fl_R_62, List.forall_mem_cons.mpr ⟨trivial, List.forall_mem_cons.mpr ⟨trivial, List.forall_mem_cons.mpr ⟨fl_R_62, List.forall_mem_cons.mpr ⟨trivial, List.forall_mem_cons.mpr ⟨trivial, List.forall_mem_cons.mpr ⟨trivial, List.forall_mem_cons.mpr ⟨fl_R_62, List.forall_mem_cons.mpr ⟨trivial, List.forall_mem_cons.mpr ⟨trivial, List.forall_mem_cons.mpr ⟨trivial, fun _ h => absurd h List.not_mem_nil⟩⟩⟩⟩⟩⟩⟩⟩⟩⟩⟩⟩⟩⟩⟩⟩⟩⟩⟩⟩⟩⟩⟩⟩⟩⟩⟩⟩⟩⟩⟩⟩⟩⟩⟩⟩⟩⟩⟩⟩⟩⟩⟩⟩⟩⟩⟩⟩⟩⟩⟩⟩⟩⟩⟩⟩⟩⟩⟩⟩⟩⟩⟩⟩⟩⟩
theorem cw_R_looker : cl_V M_R_looker 3 := ⟨⟨wd_475, wd_5, ⟨by decide, by decide⟩, by decide +kernel⟩, wd_473, wd_474⟩
def T_R_bar : List En := [(0, .iload_n 2, 1, 1, 0, 0), (1, .ifCond .lt 25, 3, 4, 26, 0), (4, .iload_n 2, 1, 5, 0, 0), (5, .bipush 24, 2, 7, 0, 0), (7, .if_icmp .ge 19, 3, 10, 26, 0), (10, .aload_n 0, 1, 11, 0, 0), (11, .iload_n 1, 1, 12, 0, 0), (12, .iload_n 2, 1, 13, 0, 0), (13, .iload_n 2, 1, 14, 0, 0), (14, .iconst 1, 1, 15, 0, 0), (15, .iadd, 1, 16, 0, 0), (16, .invokevirtual 95, 3, 19, 0, 0), (19, .ifCond .eq 7, 3, 22, 26, 0), (22, .iconst 1, 1, 23, 0, 0), (23, .goto 4, 3, 26, 27, 0), (26, .iconst 0, 1, 27, 0, 0), (27, .ireturn, 1, 28, 0, 0)]
def M_R_bar : Md := (⟨"SearchGridsModel", "bar", "(II)Z"⟩, prog_6_method_11_code, 3, some .boolean, T_R_bar)
theorem ok_R_bar : md_ok M_R_bar := ⟨by decide +kernel, List.forall_mem_cons.mpr ⟨trivial, List.forall_mem_cons.mpr ⟨trivial, List.forall_mem_cons.mpr ⟨trivial, List.forall_mem_cons.mpr ⟨trivial, List.forall_mem_cons.mpr ⟨trivial, List.forall_mem_cons.mpr ⟨trivial, List.forall_mem_cons.mpr ⟨trivial, List.forall_mem_cons.mpr ⟨trivial, List.forall_mem_cons.mpr ⟨trivial, List.forall_mem_cons.mpr ⟨trivial, List.forall_mem_cons.mpr ⟨trivial, List.forall_mem_cons.mpr ⟨trivial, List.forall_mem_cons.mpr ⟨trivial, List.forall_mem_cons.mpr ⟨trivial, List.forall_mem_cons.mpr ⟨trivial, List.forall_mem_cons.mpr ⟨trivial, List.forall_mem_cons.mpr ⟨trivial, fun _ h => absurd h List.not_mem_nil⟩⟩⟩⟩⟩⟩⟩⟩⟩⟩⟩⟩⟩⟩⟩⟩⟩⟩
theorem cw_R_bar : cl_V M_R_bar 2 := ⟨⟨wd_479, wd_5, ⟨by decide, by decide⟩, by decide +kernel⟩, wd_477, wd_478⟩
def T_R_rest : List En := [(0, .aload_n 0, 1, 1, 0, 0), (1, .iload_n 1, 1, 2, 0, 0), (2, .invokevirtual 99, 3, 5, 0, 0), (5, .ifCond .eq 18, 3, 8, 23, 0), (8, .iload_n 2, 1, 9, 0, 0), (9, .ifCond .lt 14, 3, 12, 23, 0), (12, .iload_n 2, 1, 13, 0, 0), (13, .iload_n 3, 1, 14, 0, 0), (14, .if_icmp .ge 9, 3, 17, 23, 0), (17, .iload_n 3, 1, 18, 0, 0), (18, .bipush 24, 2, 20, 0, 0), (20, .if_icmp .le 5, 3, 23, 25, 0), (23, .iconst 0, 1, 24, 0, 0), (24, .ireturn, 1, 25, 0, 0), (25, .iload_n 2, 1, 26, 0, 0), (26, .istore 4, 2, 28, 0, 0), (28, .iload 4, 2, 30, 0, 0), (30, .iload_n 3, 1, 31, 0, 0), (31, .if_icmp .ge 22, 3, 34, 53, 0), (34, .aload_n 0, 1, 35, 0, 0), (35, .getfield 29, 3, 38, 4, 9), (38, .bipush 24, 2, 40, 0, 0), (40, .iload_n 1, 1, 41, 0, 0), (41, .imul, 1, 42, 0, 0), (42, .iload 4, 2, 44, 0, 0), (44, .iadd, 1, 45, 0, 0), (45, .iconst 1, 1, 46, 0, 0), (46, .bastore, 1, 47, 0, 0), (47, .iinc 4 1, 3, 50, 0, 0), (50, .goto (-22), 3, 53, 28, 0), (53, .aload_n 0, 1, 54, 0, 0), (54, .invokevirtual 89, 3, 57, 0, 0), (57, .iconst 1, 1, 58, 0, 0), (58, .ireturn, 1, 59, 0, 0)]
def M_R_rest : Md := (⟨"SearchGridsModel", "rest", "(III)Z"⟩, prog_6_method_12_code, 5, some .boolean, T_R_rest)
theorem ok_R_rest : md_ok M_R_rest := ⟨by decide +kernel, List.forall_mem_cons.mpr ⟨trivial, List.forall_mem_cons.mpr ⟨trivial, List.forall_mem_cons.mpr ⟨trivial, List.forall_mem_cons.mpr ⟨trivial, List.forall_mem_cons.mpr ⟨trivial, List.forall_mem_cons.mpr ⟨trivial, List.forall_mem_cons.mpr ⟨trivial, List.forall_mem_cons.mpr ⟨trivial, List.forall_mem_cons.mpr ⟨trivial, List.forall_mem_cons.mpr ⟨trivial, List.forall_mem_cons.mpr ⟨trivial, List.forall_mem_cons.mpr ⟨trivial, List.forall_mem_cons.mpr ⟨trivial, List.forall_mem_cons.mpr ⟨trivial, List.forall_mem_cons.mpr ⟨trivial, List.forall_mem_cons.mpr ⟨trivial, List.forall_mem_cons.mpr ⟨trivial, List.forall_mem_cons.mpr ⟨trivial, List.forall_mem_cons.mpr ⟨trivial, List.forall_mem_cons.mpr ⟨trivial, List.forall_mem_cons.mpr ⟨fl_R_29, List.forall_mem_cons.mpr ⟨trivial, List.forall_mem_cons.mpr ⟨trivial, List.forall_mem_cons.mpr ⟨trivial, List.forall_mem_cons.mpr ⟨trivial, List.forall_mem_cons.mpr ⟨trivial, List.forall_mem_cons.mpr ⟨trivial, List.forall_mem_cons.mpr ⟨trivial, List.forall_mem_cons.mpr ⟨trivial, List.forall_mem_cons.mpr ⟨trivial, List.forall_mem_cons.mpr ⟨trivial, List.forall_mem_cons.mpr ⟨trivial, List.forall_mem_cons.mpr ⟨trivial, List.forall_mem_cons.mpr ⟨trivial, fun _ h => absurd h List.not_mem_nil⟩⟩⟩⟩⟩⟩⟩⟩⟩⟩⟩⟩⟩⟩⟩⟩⟩⟩⟩⟩⟩⟩⟩⟩⟩⟩⟩⟩⟩⟩⟩⟩⟩⟩⟩
theorem cw_R_rest : cl_V M_R_rest 3 := ⟨⟨wd_483, wd_5, ⟨by decide, by decide⟩, by decide +kernel⟩, wd_481, wd_482⟩
def T_R_thing : List En := [(0, .aload_n 0, 1, 1, 0, 0), (1, .getfield 19, 3, 4, 4, 5), (4, .iconst 4, 1, 5, 0, 0), (5, .if_icmp .ne 5, 3, 8, 10, 0), (8, .iconst (-1), 1, 9, 0, 0), (9, .ireturn, 1, 10, 0, 0), (10, .aload_n 0, 1, 11, 0, 0), (11, .dup, 1, 12, 0, 0), (12, .getfield 19, 3, 15, 4, 5), (15, .iconst 1, 1, 16, 0, 0), (16, .iadd, 1, 17, 0, 0), (17, .putfield 19, 3, 20, 4, 5), (20, .aload_n 0, 1, 21, 0, 0), (21, .invokevirtual 89, 3, 24, 0, 0), (24, .aload_n 0, 1, 25, 0, 0), (25, .getfield 19, 3, 28, 4, 5), (28, .iconst 1, 1, 29, 0, 0), (29, .isub, 1, 30, 0, 0), (30, .ireturn, 1, 31, 0, 0)]
def M_R_thing : Md := (⟨"SearchGridsModel", "thing", "()I"⟩, prog_6_method_13_code, 1, some .int, T_R_thing)
theorem ok_R_thing : md_ok M_R_thing := ⟨by decide +kernel, List.forall_mem_cons.mpr ⟨trivial, List.forall_mem_cons.mpr ⟨fl_R_19, List.forall_mem_cons.mpr ⟨trivial, List.forall_mem_cons.mpr ⟨trivial, List.forall_mem_cons.mpr ⟨trivial, List.forall_mem_cons.mpr ⟨trivial, List.forall_mem_cons.mpr ⟨trivial, List.forall_mem_cons.mpr ⟨trivial, List.forall_mem_cons.mpr ⟨fl_R_19, List.forall_mem_cons.mpr ⟨trivial, List.forall_mem_cons.mpr ⟨trivial, List.forall_mem_cons.mpr ⟨fl_R_19, List.forall_mem_cons.mpr ⟨trivial, List.forall_mem_cons.mpr ⟨trivial, List.forall_mem_cons.mpr ⟨trivial, List.forall_mem_cons.mpr ⟨fl_R_19, List.forall_mem_cons.mpr ⟨trivial, List.forall_mem_cons.mpr ⟨trivial, List.forall_mem_cons.mpr ⟨trivial, fun _ h => absurd h List.not_mem_nil⟩⟩⟩⟩⟩⟩⟩⟩⟩⟩⟩⟩⟩⟩⟩⟩⟩⟩⟩⟩
theorem cw_R_thing : cl_V M_R_thing 0 := ⟨⟨wd_492, wd_5, ⟨by decide, by decide⟩, by decide +kernel⟩, wd_490, wd_491⟩
def T_R_area : List En := [(0, .aload_n 0, 1, 1, 0, 0), (1, .iload_n 1, 1, 2, 0, 0), (2, .invokevirtual 80, 3, 5, 0, 0), (5, .ifCond .eq 52, 3, 8, 57, 0), (8, .aload_n 0, 1, 9, 0, 0), (9, .getfield 92, 3, 12, 4, 13), (12, .ifCond .gt 45, 3, 15, 57, 0), (15, .lload_n 2, 1, 16, 0, 0), (16, .lconst 1, 1, 17, 0, 0), (17, .lcmp, 1, 18, 0, 0), (18, .ifCond .lt 39, 3, 21, 57, 0), (21, .lload_n 2, 1, 22, 0, 0), (22, .ldc2_w 102, 3, 25, 0, 0), (25, .lcmp, 1, 26, 0, 0), (26, .ifCond .gt 31, 3, 29, 57, 0), (29, .ldc2_w 102, 3, 32, 0, 0), (32, .lload_n 2, 1, 33, 0, 0), (33, .lrem, 1, 34, 0, 0), (34, .lconst 0, 1, 35, 0, 0), (35, .lcmp, 1, 36, 0, 0), (36, .ifCond .ne 21, 3, 39, 57, 0), (39, .aload_n 0, 1, 40, 0, 0), (40, .iload_n 1, 1, 41, 0, 0), (41, .invokevirtual 68, 3, 44, 0, 0), (44, .iconst (-1), 1, 45, 0, 0), (45, .if_icmp .ne 14, 3, 48, 59, 0), (48, .aload_n 0, 1, 49, 0, 0), (49, .getfield 65, 3, 52, 4, 1), (52, .bipush 40, 2, 54, 0, 0), (54, .if_icmp .ne 5, 3, 57, 59, 0), (57, .iconst 0, 1, 58, 0, 0), (58, .ireturn, 1, 59, 0, 0), (59, .aload_n 0, 1, 60, 0, 0), (60, .iload_n 1, 1, 61, 0, 0), (61, .invokevirtual 86, 3, 64, 0, 0), (64, .istore 4, 2, 66, 0, 0), (66, .aload_n 0, 1, 67, 0, 0), (67, .getfield 13, 3, 70, 4, 3), (70, .iload 4, 2, 72, 0, 0), (72, .lload_n 2, 1, 73, 0, 0), (73, .l2i, 1, 74, 0, 0), (74, .iastore, 1, 75, 0, 0), (75, .aload_n 0, 1, 76, 0, 0), (76, .invokevirtual 89, 3, 79, 0, 0), (79, .iconst 1, 1, 80, 0, 0), (80, .ireturn, 1, 81, 0, 0)]
def M_R_area : Md := (⟨"SearchGridsModel", "area", "(IJ)Z"⟩, prog_6_method_14_code, 5, some .boolean, T_R_area)
theorem ok_R_area : md_ok M_R_area := ⟨by decide +kernel, List.forall_mem_cons.mpr ⟨trivial, List.forall_mem_cons.mpr ⟨trivial, List.forall_mem_cons.mpr ⟨trivial, List.forall_mem_cons.mpr ⟨trivial, List.forall_mem_cons.mpr ⟨trivial, List.forall_mem_cons.mpr ⟨fl_R_92, List.forall_mem_cons.mpr ⟨trivial, List.forall_mem_cons.mpr ⟨trivial, List.forall_mem_cons.mpr ⟨trivial, List.forall_mem_cons.mpr ⟨trivial, List.forall_mem_cons.mpr ⟨trivial, List.forall_mem_cons.mpr ⟨trivial, List.forall_mem_cons.mpr ⟨trivial, List.forall_mem_cons.mpr ⟨trivial, List.forall_mem_cons.mpr ⟨trivial, List.forall_mem_cons.mpr ⟨trivial, List.forall_mem_cons.mpr ⟨trivial, List.forall_mem_cons.mpr ⟨trivial, List.forall_mem_cons.mpr ⟨trivial, List.forall_mem_cons.mpr ⟨trivial, List.forall_mem_cons.mpr ⟨trivial, List.forall_mem_cons.mpr ⟨trivial, List.forall_mem_cons.mpr ⟨trivial, List.forall_mem_cons.mpr ⟨trivial, List.forall_mem_cons.mpr ⟨trivial, List.forall_mem_cons.mpr ⟨trivial, List.forall_mem_cons.mpr ⟨trivial, List.forall_mem_cons.mpr ⟨fl_R_65, List.forall_mem_cons.mpr ⟨trivial, List.forall_mem_cons.mpr ⟨trivial, List.forall_mem_cons.mpr ⟨trivial, List.forall_mem_cons.mpr ⟨trivial, List.forall_mem_cons.mpr ⟨trivial, List.forall_mem_cons.mpr ⟨trivial, List.forall_mem_cons.mpr ⟨trivial, List.forall_mem_cons.mpr ⟨trivial, List.forall_mem_cons.mpr ⟨trivial, List.forall_mem_cons.mpr ⟨fl_R_13, List.forall_mem_cons.mpr ⟨trivial, List.forall_mem_cons.mpr ⟨trivial, List.forall_mem_cons.mpr ⟨trivial, List.forall_mem_cons.mpr ⟨trivial, List.forall_mem_cons.mpr ⟨trivial, List.forall_mem_cons.mpr ⟨trivial, List.forall_mem_cons.mpr ⟨trivial, List.forall_mem_cons.mpr ⟨trivial, fun _ h => absurd h List.not_mem_nil⟩⟩⟩⟩⟩⟩⟩⟩⟩⟩⟩⟩⟩⟩⟩⟩⟩⟩⟩⟩⟩⟩⟩⟩⟩⟩⟩⟩⟩⟩⟩⟩⟩⟩⟩⟩⟩⟩⟩⟩⟩⟩⟩⟩⟩⟩⟩
theorem cw_R_area : cl_V M_R_area 2 := ⟨⟨wd_496, wd_5, ⟨by decide, by decide⟩, by decide +kernel⟩, wd_494, wd_495⟩
def T_R_stop : List En := [(0, .lload_n 1, 1, 1, 0, 0), (1, .lconst 0, 1, 2, 0, 0), (2, .lcmp, 1, 3, 0, 0), (3, .ifCond .lt 23, 3, 6, 26, 0), (6, .lload_n 1, 1, 7, 0, 0), (7, .lload_n 3, 1, 8, 0, 0), (8, .lcmp, 1, 9, 0, 0), (9, .ifCond .gt 17, 3, 12, 26, 0), (12, .lload_n 3, 1, 13, 0, 0), (13, .lconst 1, 1, 14, 0, 0), (14, .lcmp, 1, 15, 0, 0), (15, .ifCond .lt 11, 3, 18, 26, 0), (18, .lload_n 3, 1, 19, 0, 0), (19, .ldc2_w 104, 3, 22, 0, 0), (22, .lcmp, 1, 23, 0, 0), (23, .ifCond .le 5, 3, 26, 28, 0), (26, .iconst 0, 1, 27, 0, 0), (27, .ireturn, 1, 28, 0, 0), (28, .aload_n 0, 1, 29, 0, 0), (29, .lload_n 1, 1, 30, 0, 0), (30, .putfield 106, 3, 33, 4, 19), (33, .aload_n 0, 1, 34, 0, 0), (34, .lload_n 3, 1, 35, 0, 0), (35, .putfield 110, 3, 38, 4, 20), (38, .aload_n 0, 1, 39, 0, 0), (39, .invokevirtual 89, 3, 42, 0, 0), (42, .iconst 1, 1, 43, 0, 0), (43, .ireturn, 1, 44, 0, 0)]
def M_R_stop : Md := (⟨"SearchGridsModel", "stop", "(JJ)Z"⟩, prog_6_method_15_code, 5, some .boolean, T_R_stop)
theorem ok_R_stop : md_ok M_R_stop := ⟨by decide +kernel, List.forall_mem_cons.mpr ⟨trivial, List.forall_mem_cons.mpr ⟨trivial, List.forall_mem_cons.mpr ⟨trivial, List.forall_mem_cons.mpr ⟨trivial, List.forall_mem_cons.mpr ⟨trivial, List.forall_mem_cons.mpr ⟨trivial, List.forall_mem_cons.mpr ⟨trivial, List.forall_mem_cons.mpr ⟨trivial, List.forall_mem_cons.mpr ⟨trivial, List.forall_mem_cons.mpr ⟨trivial, List.forall_mem_cons.mpr ⟨trivial, List.forall_mem_cons.mpr ⟨trivial, List.forall_mem_cons.mpr ⟨trivial, List.forall_mem_cons.mpr ⟨trivial, List.forall_mem_cons.mpr ⟨trivial, List.forall_mem_cons.mpr ⟨trivial, List.forall_mem_cons.mpr ⟨trivial, List.forall_mem_cons.mpr ⟨trivial, List.forall_mem_cons.mpr ⟨trivial, List.forall_mem_cons.mpr ⟨trivial, List.forall_mem_cons.mpr ⟨fl_R_106, List.forall_mem_cons.mpr ⟨trivial, List.forall_mem_cons.mpr ⟨trivial, List.forall_mem_cons.mpr ⟨fl_R_110, List.forall_mem_cons.mpr ⟨trivial, List.forall_mem_cons.mpr ⟨trivial, List.forall_mem_cons.mpr ⟨trivial, List.forall_mem_cons.mpr ⟨trivial, fun _ h => absurd h List.not_mem_nil⟩⟩⟩⟩⟩⟩⟩⟩⟩⟩⟩⟩⟩⟩⟩⟩⟩⟩⟩⟩⟩⟩⟩⟩⟩⟩⟩⟩⟩
theorem cw_R_stop : cl_V M_R_stop 2 := ⟨⟨wd_501, wd_5, ⟨by decide, by decide⟩, by decide +kernel⟩, wd_499, wd_500⟩
def T_R_missed : List En := [(0, .lconst 1, 1, 1, 0, 0), (1, .lstore_n 3, 1, 2, 0, 0), (2, .iconst 0, 1, 3, 0, 0), (3, .istore 5, 2, 5, 0, 0), (5, .iload 5, 2, 7, 0, 0), (7, .iconst 4, 1, 8, 0, 0), (8, .if_icmp .ge 95, 3, 11, 103, 0), (11, .iload 5, 2, 13, 0, 0), (13, .aload_n 0, 1, 14, 0, 0), (14, .getfield 62, 3, 17, 4, 6), (17, .if_icmp .ge 25, 3, 20, 42, 0), (20, .aload_n 1, 1, 21, 0, 0), (21, .bipush 40, 2, 23, 0, 0), (23, .iload 5, 2, 25, 0, 0), (25, .imul, 1, 26, 0, 0), (26, .iload_n 2, 1, 27, 0, 0), (27, .iadd, 1, 28, 0, 0), (28, .iaload, 1, 29, 0, 0), (29, .i2l, 1, 30, 0, 0), (30, .aload_n 0, 1, 31, 0, 0), (31, .getfield 23, 3, 34, 4, 7), (34, .iload 5, 2, 36, 0, 0), (36, .iaload, 1, 37, 0, 0), (37, .i2l, 1, 38, 0, 0), (38, .lmul, 1, 39, 0, 0), (39, .goto 4, 3, 42, 43, 0), (42, .lconst 0, 1, 43, 0, 0), (43, .lstore 6, 2, 45, 0, 0), (45, .lload 6, 2, 47, 0, 0), (47, .aload_n 0, 1, 48, 0, 0), (48, .getfield 13, 3, 51, 4, 3), (51, .iload_n 2, 1, 52, 0, 0), (52, .iaload, 1, 53, 0, 0), (53, .i2l, 1, 54, 0, 0), (54, .lcmp, 1, 55, 0, 0), (55, .ifCond .le 13, 3, 58, 68, 0), (58, .aload_n 0, 1, 59, 0, 0), (59, .getfield 13, 3, 62, 4, 3), (62, .iload_n 2, 1, 63, 0, 0), (63, .iaload, 1, 64, 0, 0), (64, .i2l, 1, 65, 0, 0), (65, .goto 5, 3, 68, 70, 0), (68, .lload 6, 2, 70, 0, 0), (70, .lstore 6, 2, 72, 0, 0), (72, .lload_n 3, 1, 73, 0, 0), (73, .sipush 720, 3, 76, 0, 0), (76, .aload_n 0, 1, 77, 0, 0), (77, .getfield 13, 3, 80, 4, 3), (80, .iload_n 2, 1, 81, 0, 0), (81, .iaload, 1, 82, 0, 0), (82, .idiv, 1, 83, 0, 0), (83, .i2l, 1, 84, 0, 0), (84, .aload_n 0, 1, 85, 0, 0), (85, .getfield 13, 3, 88, 4, 3), (88, .iload_n 2, 1, 89, 0, 0), (89, .iaload, 1, 90, 0, 0), (90, .i2l, 1, 91, 0, 0), (91, .lload 6, 2, 93, 0, 0), (93, .lsub, 1, 94, 0, 0), (94, .lmul, 1, 95, 0, 0), (95, .lmul, 1, 96, 0, 0), (96, .lstore_n 3, 1, 97, 0, 0), (97, .iinc 5 1, 3, 100, 0, 0), (100, .goto (-95), 3, 103, 5, 0), (103, .lload_n 3, 1, 104, 0, 0), (104, .lreturn, 1, 105, 0, 0)]
def M_R_missed : Md := (⟨"SearchGridsModel", "missed", "([II)J"⟩, prog_6_method_16_code, 8, some .long, T_R_missed)
theorem ok_R_missed : md_ok M_R_missed := ⟨by decide +kernel, List.forall_mem_cons.mpr ⟨trivial, List.forall_mem_cons.mpr ⟨trivial, List.forall_mem_cons.mpr ⟨trivial, List.forall_mem_cons.mpr ⟨trivial, List.forall_mem_cons.mpr ⟨trivial, List.forall_mem_cons.mpr ⟨trivial, List.forall_mem_cons.mpr ⟨trivial, List.forall_mem_cons.mpr ⟨trivial, List.forall_mem_cons.mpr ⟨trivial, List.forall_mem_cons.mpr ⟨fl_R_62, List.forall_mem_cons.mpr ⟨trivial, List.forall_mem_cons.mpr ⟨trivial, List.forall_mem_cons.mpr ⟨trivial, List.forall_mem_cons.mpr ⟨trivial, List.forall_mem_cons.mpr ⟨trivial, List.forall_mem_cons.mpr ⟨trivial, List.forall_mem_cons.mpr ⟨trivial, List.forall_mem_cons.mpr ⟨trivial, List.forall_mem_cons.mpr ⟨trivial, List.forall_mem_cons.mpr ⟨trivial, List.forall_mem_cons.mpr ⟨fl_R_23, List.forall_mem_cons.mpr ⟨trivial, List.forall_mem_cons.mpr ⟨trivial, List.forall_mem_cons.mpr ⟨trivial, List.forall_mem_cons.mpr ⟨trivial, List.forall_mem_cons.mpr ⟨trivial, List.forall_mem_cons.mpr ⟨trivial, List.forall_mem_cons.mpr ⟨trivial, List.forall_mem_cons.mpr ⟨trivial, List.forall_mem_cons.mpr ⟨trivial, List.forall_mem_cons.mpr ⟨fl_R_13, List.forall_mem_cons.mpr ⟨trivial, List.forall_mem_cons.mpr ⟨trivial, List.forall_mem_cons.mpr ⟨trivial, List.forall_mem_cons.mpr ⟨trivial, List.forall_mem_cons.mpr ⟨trivial, List.forall_mem_cons.mpr ⟨trivial, List.forall_mem_cons.mpr ⟨fl_R_13, List.forall_mem_cons.mpr ⟨trivial, List.forall_mem_cons.mpr ⟨trivial, List.forall_mem_cons.mpr ⟨trivial, List.forall_mem_cons.mpr ⟨trivial, List.forall_mem_cons.mpr ⟨trivial, List.forall_mem_cons.mpr ⟨trivial, List.forall_mem_cons.mpr ⟨trivial, List.forall_mem_cons.mpr ⟨trivial, List.forall_mem_cons.mpr ⟨trivial, List.forall_mem_cons.mpr ⟨fl_R_13, List.forall_mem_cons.mpr ⟨trivial, List.forall_mem_cons.mpr ⟨trivial, List.forall_mem_cons.mpr ⟨trivial, List.forall_mem_cons.mpr ⟨trivial, List.forall_mem_cons.mpr ⟨trivial, List.forall_mem_cons.mpr ⟨fl_R_13, List.forall_mem_cons.mpr ⟨trivial, List.forall_mem_cons.mpr ⟨trivial, List.forall_mem_cons.mpr ⟨trivial, List.forall_mem_cons.mpr ⟨trivial, List.forall_mem_cons.mpr ⟨trivial, List.forall_mem_cons.mpr ⟨trivial, List.forall_mem_cons.mpr ⟨trivial, List.forall_mem_cons.mpr ⟨trivial, List.forall_mem_cons.mpr ⟨trivial, List.forall_mem_cons.mpr ⟨trivial, List.forall_mem_cons.mpr ⟨trivial, List.forall_mem_cons.mpr ⟨trivial, fun _ h => absurd h List.not_mem_nil⟩⟩⟩⟩⟩⟩⟩⟩⟩⟩⟩⟩⟩⟩⟩⟩⟩⟩⟩⟩⟩⟩⟩⟩⟩⟩⟩⟩⟩⟩⟩⟩⟩⟩⟩⟩⟩⟩⟩⟩⟩⟩⟩⟩⟩⟩⟩⟩⟩⟩⟩⟩⟩⟩⟩⟩⟩⟩⟩⟩⟩⟩⟩⟩⟩⟩⟩
theorem cw_R_missed : cl_V M_R_missed 2 := ⟨⟨wd_519, wd_5, ⟨by decide, by decide⟩, by decide +kernel⟩, wd_518, sl_30⟩
def T_R_weight : List En := [(0, .aload_n 0, 1, 1, 0, 0), (1, .getfield 16, 3, 4, 4, 4), (4, .iload_n 1, 1, 5, 0, 0), (5, .iaload, 1, 6, 0, 0), (6, .aload_n 0, 1, 7, 0, 0), (7, .getfield 16, 3, 10, 4, 4), (10, .bipush 40, 2, 12, 0, 0), (12, .iload_n 1, 1, 13, 0, 0), (13, .iadd, 1, 14, 0, 0), (14, .iaload, 1, 15, 0, 0), (15, .iadd, 1, 16, 0, 0), (16, .aload_n 0, 1, 17, 0, 0), (17, .getfield 16, 3, 20, 4, 4), (20, .bipush 80, 2, 22, 0, 0), (22, .iload_n 1, 1, 23, 0, 0), (23, .iadd, 1, 24, 0, 0), (24, .iaload, 1, 25, 0, 0), (25, .iadd, 1, 26, 0, 0), (26, .aload_n 0, 1, 27, 0, 0), (27, .getfield 16, 3, 30, 4, 4), (30, .bipush 120, 2, 32, 0, 0), (32, .iload_n 1, 1, 33, 0, 0), (33, .iadd, 1, 34, 0, 0), (34, .iaload, 1, 35, 0, 0), (35, .iadd, 1, 36, 0, 0), (36, .ireturn, 1, 37, 0, 0)]
def M_R_weight : Md := (⟨"SearchGridsModel", "weight", "(I)I"⟩, prog_6_method_17_code, 2, some .int, T_R_weight)
theorem ok_R_weight : md_ok M_R_weight := ⟨by decide +kernel, List.forall_mem_cons.mpr ⟨trivial, List.forall_mem_cons.mpr ⟨fl_R_16, List.forall_mem_cons.mpr ⟨trivial, List.forall_mem_cons.mpr ⟨trivial, List.forall_mem_cons.mpr ⟨trivial, List.forall_mem_cons.mpr ⟨fl_R_16, List.forall_mem_cons.mpr ⟨trivial, List.forall_mem_cons.mpr ⟨trivial, List.forall_mem_cons.mpr ⟨trivial, List.forall_mem_cons.mpr ⟨trivial, List.forall_mem_cons.mpr ⟨trivial, List.forall_mem_cons.mpr ⟨trivial, List.forall_mem_cons.mpr ⟨fl_R_16, List.forall_mem_cons.mpr ⟨trivial, List.forall_mem_cons.mpr ⟨trivial, List.forall_mem_cons.mpr ⟨trivial, List.forall_mem_cons.mpr ⟨trivial, List.forall_mem_cons.mpr ⟨trivial, List.forall_mem_cons.mpr ⟨trivial, List.forall_mem_cons.mpr ⟨fl_R_16, List.forall_mem_cons.mpr ⟨trivial, List.forall_mem_cons.mpr ⟨trivial, List.forall_mem_cons.mpr ⟨trivial, List.forall_mem_cons.mpr ⟨trivial, List.forall_mem_cons.mpr ⟨trivial, List.forall_mem_cons.mpr ⟨trivial, fun _ h => absurd h List.not_mem_nil⟩⟩⟩⟩⟩⟩⟩⟩⟩⟩⟩⟩⟩⟩⟩⟩⟩⟩⟩⟩⟩⟩⟩⟩⟩⟩⟩
theorem cw_R_weight : cl_V M_R_weight 1 := ⟨⟨wd_514, wd_5, ⟨by decide, by decide⟩, by decide +kernel⟩, wd_513, sl_29⟩
def T_R_worth : List En := [(0, .lconst 0, 1, 1, 0, 0), (1, .lstore_n 2, 1, 2, 0, 0), (2, .iconst 0, 1, 3, 0, 0), (3, .istore 4, 2, 5, 0, 0), (5, .iload 4, 2, 7, 0, 0), (7, .aload_n 0, 1, 8, 0, 0), (8, .getfield 65, 3, 11, 4, 1), (11, .if_icmp .ge 31, 3, 14, 42, 0), (14, .lload_n 2, 1, 15, 0, 0), (15, .aload_n 0, 1, 16, 0, 0), (16, .iload 4, 2, 18, 0, 0), (18, .invokevirtual 113, 3, 21, 0, 0), (21, .i2l, 1, 22, 0, 0), (22, .ldc2_w 116, 3, 25, 0, 0), (25, .aload_n 0, 1, 26, 0, 0), (26, .aload_n 1, 1, 27, 0, 0), (27, .iload 4, 2, 29, 0, 0), (29, .invokevirtual 118, 3, 32, 0, 0), (32, .lsub, 1, 33, 0, 0), (33, .lmul, 1, 34, 0, 0), (34, .ladd, 1, 35, 0, 0), (35, .lstore_n 2, 1, 36, 0, 0), (36, .iinc 4 1, 3, 39, 0, 0), (39, .goto (-34), 3, 42, 5, 0), (42, .lload_n 2, 1, 43, 0, 0), (43, .lreturn, 1, 44, 0, 0)]
def M_R_worth : Md := (⟨"SearchGridsModel", "worth", "([I)J"⟩, prog_6_method_18_code, 5, some .long, T_R_worth)
theorem ok_R_worth : md_ok M_R_worth := ⟨by decide +kernel, List.forall_mem_cons.mpr ⟨trivial, List.forall_mem_cons.mpr ⟨trivial, List.forall_mem_cons.mpr ⟨trivial, List.forall_mem_cons.mpr ⟨trivial, List.forall_mem_cons.mpr ⟨trivial, List.forall_mem_cons.mpr ⟨trivial, List.forall_mem_cons.mpr ⟨fl_R_65, List.forall_mem_cons.mpr ⟨trivial, List.forall_mem_cons.mpr ⟨trivial, List.forall_mem_cons.mpr ⟨trivial, List.forall_mem_cons.mpr ⟨trivial, List.forall_mem_cons.mpr ⟨trivial, List.forall_mem_cons.mpr ⟨trivial, List.forall_mem_cons.mpr ⟨trivial, List.forall_mem_cons.mpr ⟨trivial, List.forall_mem_cons.mpr ⟨trivial, List.forall_mem_cons.mpr ⟨trivial, List.forall_mem_cons.mpr ⟨trivial, List.forall_mem_cons.mpr ⟨trivial, List.forall_mem_cons.mpr ⟨trivial, List.forall_mem_cons.mpr ⟨trivial, List.forall_mem_cons.mpr ⟨trivial, List.forall_mem_cons.mpr ⟨trivial, List.forall_mem_cons.mpr ⟨trivial, List.forall_mem_cons.mpr ⟨trivial, List.forall_mem_cons.mpr ⟨trivial, fun _ h => absurd h List.not_mem_nil⟩⟩⟩⟩⟩⟩⟩⟩⟩⟩⟩⟩⟩⟩⟩⟩⟩⟩⟩⟩⟩⟩⟩⟩⟩⟩⟩
theorem cw_R_worth : cl_V M_R_worth 1 := ⟨⟨wd_510, wd_5, ⟨by decide, by decide⟩, by decide +kernel⟩, wd_509, sl_28⟩
def T_R_use : List En := [(0, .iconst 0, 1, 1, 0, 0), (1, .istore_n 2, 1, 2, 0, 0), (2, .iconst 0, 1, 3, 0, 0), (3, .istore_n 3, 1, 4, 0, 0), (4, .iload_n 3, 1, 5, 0, 0), (5, .aload_n 0, 1, 6, 0, 0), (6, .getfield 26, 3, 9, 4, 8), (9, .iload_n 1, 1, 10, 0, 0), (10, .iaload, 1, 11, 0, 0), (11, .if_icmp .ge 31, 3, 14, 42, 0), (14, .iload_n 2, 1, 15, 0, 0), (15, .aload_n 0, 1, 16, 0, 0), (16, .getfield 29, 3, 19, 4, 9), (19, .bipush 24, 2, 21, 0, 0), (21, .iload_n 1, 1, 22, 0, 0), (22, .imul, 1, 23, 0, 0), (23, .iload_n 3, 1, 24, 0, 0), (24, .iadd, 1, 25, 0, 0), (25, .baload, 1, 26, 0, 0), (26, .ifCond .eq 7, 3, 29, 33, 0), (29, .iconst 0, 1, 30, 0, 0), (30, .goto 4, 3, 33, 34, 0), (33, .iconst 1, 1, 34, 0, 0), (34, .iadd, 1, 35, 0, 0), (35, .istore_n 2, 1, 36, 0, 0), (36, .iinc 3 1, 3, 39, 0, 0), (39, .goto (-35), 3, 42, 4, 0), (42, .iload_n 2, 1, 43, 0, 0), (43, .ireturn, 1, 44, 0, 0)]
def M_R_use : Md := (⟨"SearchGridsModel", "use", "(I)I"⟩, prog_6_method_19_code, 4, some .int, T_R_use)
theorem ok_R_use : md_ok M_R_use := ⟨by decide +kernel, List.forall_mem_cons.mpr ⟨trivial, List.forall_mem_cons.mpr ⟨trivial, List.forall_mem_cons.mpr ⟨trivial, List.forall_mem_cons.mpr ⟨trivial, List.forall_mem_cons.mpr ⟨trivial, List.forall_mem_cons.mpr ⟨trivial, List.forall_mem_cons.mpr ⟨fl_R_26, List.forall_mem_cons.mpr ⟨trivial, List.forall_mem_cons.mpr ⟨trivial, List.forall_mem_cons.mpr ⟨trivial, List.forall_mem_cons.mpr ⟨trivial, List.forall_mem_cons.mpr ⟨trivial, List.forall_mem_cons.mpr ⟨fl_R_29, List.forall_mem_cons.mpr ⟨trivial, List.forall_mem_cons.mpr ⟨trivial, List.forall_mem_cons.mpr ⟨trivial, List.forall_mem_cons.mpr ⟨trivial, List.forall_mem_cons.mpr ⟨trivial, List.forall_mem_cons.mpr ⟨trivial, List.forall_mem_cons.mpr ⟨trivial, List.forall_mem_cons.mpr ⟨trivial, List.forall_mem_cons.mpr ⟨trivial, List.forall_mem_cons.mpr ⟨trivial, List.forall_mem_cons.mpr ⟨trivial, List.forall_mem_cons.mpr ⟨trivial, List.forall_mem_cons.mpr ⟨trivial, List.forall_mem_cons.mpr ⟨trivial, List.forall_mem_cons.mpr ⟨trivial, List.forall_mem_cons.mpr ⟨trivial, fun _ h => absurd h List.not_mem_nil⟩⟩⟩⟩⟩⟩⟩⟩⟩⟩⟩⟩⟩⟩⟩⟩⟩⟩⟩⟩⟩⟩⟩⟩⟩⟩⟩⟩⟩⟩
theorem cw_R_use : cl_V M_R_use 1 := ⟨⟨wd_527, wd_5, ⟨by decide, by decide⟩, by decide +kernel⟩, wd_526, sl_32⟩
def T_R_given : List En := [(0, .iconst 0, 1, 1, 0, 0), (1, .istore_n 3, 1, 2, 0, 0), (2, .iconst 0, 1, 3, 0, 0), (3, .istore 4, 2, 5, 0, 0), (5, .iload 4, 2, 7, 0, 0), (7, .aload_n 0, 1, 8, 0, 0), (8, .getfield 65, 3, 11, 4, 1), (11, .if_icmp .ge 21, 3, 14, 32, 0), (14, .iload_n 3, 1, 15, 0, 0), (15, .aload_n 1, 1, 16, 0, 0), (16, .bipush 40, 2, 18, 0, 0), (18, .iload_n 2, 1, 19, 0, 0), (19, .imul, 1, 20, 0, 0), (20, .iload 4, 2, 22, 0, 0), (22, .iadd, 1, 23, 0, 0), (23, .iaload, 1, 24, 0, 0), (24, .iadd, 1, 25, 0, 0), (25, .istore_n 3, 1, 26, 0, 0), (26, .iinc 4 1, 3, 29, 0, 0), (29, .goto (-24), 3, 32, 5, 0), (32, .iload_n 3, 1, 33, 0, 0), (33, .ireturn, 1, 34, 0, 0)]
def M_R_given : Md := (⟨"SearchGridsModel", "given", "([II)I"⟩, prog_6_method_20_code, 5, some .int, T_R_given)
theorem ok_R_given : md_ok M_R_given := ⟨by decide +kernel, List.forall_mem_cons.mpr ⟨trivial, List.forall_mem_cons.mpr ⟨trivial, List.forall_mem_cons.mpr ⟨trivial, List.forall_mem_cons.mpr ⟨trivial, List.forall_mem_cons.mpr ⟨trivial, List.forall_mem_cons.mpr ⟨trivial, List.forall_mem_cons.mpr ⟨fl_R_65, List.forall_mem_cons.mpr ⟨trivial, List.forall_mem_cons.mpr ⟨trivial, List.forall_mem_cons.mpr ⟨trivial, List.forall_mem_cons.mpr ⟨trivial, List.forall_mem_cons.mpr ⟨trivial, List.forall_mem_cons.mpr ⟨trivial, List.forall_mem_cons.mpr ⟨trivial, List.forall_mem_cons.mpr ⟨trivial, List.forall_mem_cons.mpr ⟨trivial, List.forall_mem_cons.mpr ⟨trivial, List.forall_mem_cons.mpr ⟨trivial, List.forall_mem_cons.mpr ⟨trivial, List.forall_mem_cons.mpr ⟨trivial, List.forall_mem_cons.mpr ⟨trivial, List.forall_mem_cons.mpr ⟨trivial, fun _ h => absurd h List.not_mem_nil⟩⟩⟩⟩⟩⟩⟩⟩⟩⟩⟩⟩⟩⟩⟩⟩⟩⟩⟩⟩⟩⟩⟩
theorem cw_R_given : cl_V M_R_given 2 := ⟨⟨wd_523, wd_5, ⟨by decide, by decide⟩, by decide +kernel⟩, wd_522, sl_31⟩
def T_R_size : List En := [(0, .iconst 0, 1, 1, 0, 0), (1, .istore_n 1, 1, 2, 0, 0), (2, .iconst 0, 1, 3, 0, 0), (3, .istore_n 2, 1, 4, 0, 0), (4, .iload_n 2, 1, 5, 0, 0), (5, .aload_n 0, 1, 6, 0, 0), (6, .getfield 62, 3, 9, 4, 6), (9, .if_icmp .ge 21, 3, 12, 30, 0), (12, .iload_n 1, 1, 13, 0, 0), (13, .aload_n 0, 1, 14, 0, 0), (14, .aload_n 0, 1, 15, 0, 0), (15, .getfield 33, 3, 18, 4, 10), (18, .iload_n 2, 1, 19, 0, 0), (19, .invokevirtual 122, 3, 22, 0, 0), (22, .iadd, 1, 23, 0, 0), (23, .istore_n 1, 1, 24, 0, 0), (24, .iinc 2 1, 3, 27, 0, 0), (27, .goto (-23), 3, 30, 4, 0), (30, .iload_n 1, 1, 31, 0, 0), (31, .ireturn, 1, 32, 0, 0)]
def M_R_size : Md := (⟨"SearchGridsModel", "size", "()I"⟩, prog_6_method_21_code, 3, some .int, T_R_size)
theorem ok_R_size : md_ok M_R_size := ⟨by decide +kernel, List.forall_mem_cons.mpr ⟨trivial, List.forall_mem_cons.mpr ⟨trivial, List.forall_mem_cons.mpr ⟨trivial, List.forall_mem_cons.mpr ⟨trivial, List.forall_mem_cons.mpr ⟨trivial, List.forall_mem_cons.mpr ⟨trivial, List.forall_mem_cons.mpr ⟨fl_R_62, List.forall_mem_cons.mpr ⟨trivial, List.forall_mem_cons.mpr ⟨trivial, List.forall_mem_cons.mpr ⟨trivial, List.forall_mem_cons.mpr ⟨trivial, List.forall_mem_cons.mpr ⟨fl_R_33, List.forall_mem_cons.mpr ⟨trivial, List.forall_mem_cons.mpr ⟨trivial, List.forall_mem_cons.mpr ⟨trivial, List.forall_mem_cons.mpr ⟨trivial, List.forall_mem_cons.mpr ⟨trivial, List.forall_mem_cons.mpr ⟨trivial, List.forall_mem_cons.mpr ⟨trivial, List.forall_mem_cons.mpr ⟨trivial, fun _ h => absurd h List.not_mem_nil⟩⟩⟩⟩⟩⟩⟩⟩⟩⟩⟩⟩⟩⟩⟩⟩⟩⟩⟩⟩⟩
theorem cw_R_size : cl_V M_R_size 0 := ⟨⟨wd_531, wd_5, ⟨by decide, by decide⟩, by decide +kernel⟩, wd_530, sl_33⟩
def T_R_share : List En := [(0, .iload_n 1, 1, 1, 0, 0), (1, .ifCond .lt 9, 3, 4, 10, 0), (4, .iload_n 1, 1, 5, 0, 0), (5, .bipush 100, 2, 7, 0, 0), (7, .if_icmp .le 5, 3, 10, 12, 0), (10, .iconst (-1), 1, 11, 0, 0), (11, .ireturn, 1, 12, 0, 0), (12, .aload_n 0, 1, 13, 0, 0), (13, .invokevirtual 89, 3, 16, 0, 0), (16, .iconst 1, 1, 17, 0, 0), (17, .istore_n 2, 1, 18, 0, 0), (18, .iconst 0, 1, 19, 0, 0), (19, .istore_n 3, 1, 20, 0, 0), (20, .iload_n 3, 1, 21, 0, 0), (21, .iload_n 1, 1, 22, 0, 0), (22, .if_icmp .ge 196, 3, 25, 218, 0), (25, .iload_n 2, 1, 26, 0, 0), (26, .ifCond .eq 192, 3, 29, 218, 0), (29, .aload_n 0, 1, 30, 0, 0), (30, .aload_n 0, 1, 31, 0, 0), (31, .getfield 33, 3, 34, 4, 10), (34, .invokevirtual 126, 3, 37, 0, 0), (37, .lstore 4, 2, 39, 0, 0), (39, .lload 4, 2, 41, 0, 0), (41, .lstore 6, 2, 43, 0, 0), (43, .iconst (-1), 1, 44, 0, 0), (44, .istore 8, 2, 46, 0, 0), (46, .iconst 0, 1, 47, 0, 0), (47, .istore 9, 2, 49, 0, 0), (49, .iload 9, 2, 51, 0, 0), (51, .aload_n 0, 1, 52, 0, 0), (52, .getfield 62, 3, 55, 4, 6), (55, .if_icmp .ge 130, 3, 58, 185, 0), (58, .iconst 0, 1, 59, 0, 0), (59, .istore 10, 2, 61, 0, 0), (61, .iload 10, 2, 63, 0, 0), (63, .aload_n 0, 1, 64, 0, 0), (64, .getfield 65, 3, 67, 4, 1), (67, .if_icmp .ge 112, 3, 70, 179, 0), (70, .aload_n 0, 1, 71, 0, 0), (71, .aload_n 0, 1, 72, 0, 0), (72, .getfield 33, 3, 75, 4, 10), (75, .iload 9, 2, 77, 0, 0), (77, .invokevirtual 122, 3, 80, 0, 0), (80, .aload_n 0, 1, 81, 0, 0), (81, .iload 9, 2, 83, 0, 0), (83, .invokevirtual 130, 3, 86, 0, 0), (86, .if_icmp .ge 93, 3, 89, 179, 0), (89, .aload_n 0, 1, 90, 0, 0), (90, .getfield 33, 3, 93, 4, 10), (93, .bipush 40, 2, 95, 0, 0), (95, .iload 9, 2, 97, 0, 0), (97, .imul, 1, 98, 0, 0), (98, .iload 10, 2, 100, 0, 0), (100, .iadd, 1, 101, 0, 0), (101, .dup2, 1, 102, 0, 0), (102, .iaload, 1, 103, 0, 0), (103, .iconst 1, 1, 104, 0, 0), (104, .iadd, 1, 105, 0, 0), (105, .iastore, 1, 106, 0, 0), (106, .aload_n 0, 1, 107, 0, 0), (107, .aload_n 0, 1, 108, 0, 0), (108, .getfield 33, 3, 111, 4, 10), (111, .invokevirtual 126, 3, 114, 0, 0), (114, .lstore 11, 2, 116, 0, 0), (116, .aload_n 0, 1, 117, 0, 0), (117, .getfield 33, 3, 120, 4, 10), (120, .bipush 40, 2, 122, 0, 0), (122, .iload 9, 2, 124, 0, 0), (124, .imul, 1, 125, 0, 0), (125, .iload 10, 2, 127, 0, 0), (127, .iadd, 1, 128, 0, 0), (128, .dup2, 1, 129, 0, 0), (129, .iaload, 1, 130, 0, 0), (130, .iconst 1, 1, 131, 0, 0), (131, .isub, 1, 132, 0, 0), (132, .iastore, 1, 133, 0, 0), (133, .lload 11, 2, 135, 0, 0), (135, .lload 6, 2, 137, 0, 0), (137, .lcmp, 1, 138, 0, 0), (138, .ifCond .le 14, 3, 141, 152, 0), (141, .bipush 40, 2, 143, 0, 0), (143, .iload 9, 2, 145, 0, 0), (145, .imul, 1, 146, 0, 0), (146, .iload 10, 2, 148, 0, 0), (148, .iadd, 1, 149, 0, 0), (149, .goto 5, 3, 152, 154, 0), (152, .iload 8, 2, 154, 0, 0), (154, .istore 8, 2, 156, 0, 0), (156, .lload 11, 2, 158, 0, 0), (158, .lload 6, 2, 160, 0, 0), (160, .lcmp, 1, 161, 0, 0), (161, .ifCond .le 8, 3, 164, 169, 0), (164, .lload 11, 2, 166, 0, 0), (166, .goto 5, 3, 169, 171, 0), (169, .lload 6, 2, 171, 0, 0), (171, .lstore 6, 2, 173, 0, 0), (173, .iinc 10 1, 3, 176, 0, 0), (176, .goto (-115), 3, 179, 61, 0), (179, .iinc 9 1, 3, 182, 0, 0), (182, .goto (-133), 3, 185, 49, 0), (185, .iload 8, 2, 187, 0, 0), (187, .iconst (-1), 1, 188, 0, 0), (188, .if_icmp .eq 7, 3, 191, 195, 0), (191, .iconst 1, 1, 192, 0, 0), (192, .goto 4, 3, 195, 196, 0), (195, .iconst 0, 1, 196, 0, 0), (196, .istore_n 2, 1, 197, 0, 0), (197, .iload_n 2, 1, 198, 0, 0), (198, .ifCond .eq 14, 3, 201, 212, 0), (201, .aload_n 0, 1, 202, 0, 0), (202, .getfield 33, 3, 205, 4, 10), (205, .iload 8, 2, 207, 0, 0), (207, .dup2, 1, 208, 0, 0), (208, .iaload, 1, 209, 0, 0), (209, .iconst 1, 1, 210, 0, 0), (210, .iadd, 1, 211, 0, 0), (211, .iastore, 1, 212, 0, 0), (212, .iinc 3 1, 3, 215, 0, 0), (215, .goto (-195), 3, 218, 20, 0), (218, .aload_n 0, 1, 219, 0, 0), (219, .invokevirtual 133, 3, 222, 0, 0), (222, .ireturn, 1, 223, 0, 0)]
def M_R_share : Md := (⟨"SearchGridsModel", "share", "(I)I"⟩, prog_6_method_22_code, 13, some .int, T_R_share)
theorem ok_R_share : md_ok M_R_share := ⟨by decide +kernel, List.forall_mem_cons.mpr ⟨trivial, List.forall_mem_cons.mpr ⟨trivial, List.forall_mem_cons.mpr ⟨trivial, List.forall_mem_cons.mpr ⟨trivial, List.forall_mem_cons.mpr ⟨trivial, List.forall_mem_cons.mpr ⟨trivial, List.forall_mem_cons.mpr ⟨trivial, List.forall_mem_cons.mpr ⟨trivial, List.forall_mem_cons.mpr ⟨trivial, List.forall_mem_cons.mpr ⟨trivial, List.forall_mem_cons.mpr ⟨trivial, List.forall_mem_cons.mpr ⟨trivial, List.forall_mem_cons.mpr ⟨trivial, List.forall_mem_cons.mpr ⟨trivial, List.forall_mem_cons.mpr ⟨trivial, List.forall_mem_cons.mpr ⟨trivial, List.forall_mem_cons.mpr ⟨trivial, List.forall_mem_cons.mpr ⟨trivial, List.forall_mem_cons.mpr ⟨trivial, List.forall_mem_cons.mpr ⟨trivial, List.forall_mem_cons.mpr ⟨fl_R_33, List.forall_mem_cons.mpr ⟨trivial, List.forall_mem_cons.mpr ⟨trivial, List.forall_mem_cons.mpr ⟨trivial, List.forall_mem_cons.mpr ⟨trivial, List.forall_mem_cons.mpr ⟨trivial, List.forall_mem_cons.mpr ⟨trivial, List.forall_mem_cons.mpr ⟨trivial, List.forall_mem_cons.mpr ⟨trivial, List.forall_mem_cons.mpr ⟨trivial, List.forall_mem_cons.mpr ⟨trivial, List.forall_mem_cons.mpr ⟨fl_R_62, List.forall_mem_cons.mpr ⟨trivial, List.forall_mem_cons.mpr ⟨trivial, List.forall_mem_cons.mpr ⟨trivial, List.forall_mem_cons.mpr ⟨trivial, List.forall_mem_cons.mpr ⟨trivial, List.forall_mem_cons.mpr ⟨fl_R_65, List.forall_mem_cons.mpr ⟨trivial, List.forall_mem_cons.mpr ⟨trivial, List.forall_mem_cons.mpr ⟨trivial, List.forall_mem_cons.mpr ⟨fl_R_33, List.forall_mem_cons.mpr ⟨trivial, List.forall_mem_cons.mpr ⟨trivial, List.forall_mem_cons.mpr ⟨trivial, List.forall_mem_cons.mpr ⟨trivial, List.forall_mem_cons.mpr ⟨trivial, List.forall_mem_cons.mpr ⟨trivial, List.forall_mem_cons.mpr ⟨trivial, List.forall_mem_cons.mpr ⟨fl_R_33, List.forall_mem_cons.mpr ⟨trivial, List.forall_mem_cons.mpr ⟨trivial, List.forall_mem_cons.mpr ⟨trivial, List.forall_mem_cons.mpr ⟨trivial, List.forall_mem_cons.mpr ⟨trivial, List.forall_mem_cons.mpr ⟨trivial, List.forall_mem_cons.mpr ⟨trivial, List.forall_mem_cons.mpr ⟨trivial, List.forall_mem_cons.mpr ⟨trivial, List.forall_mem_cons.mpr ⟨trivial, List.forall_mem_cons.mpr ⟨trivial, List.forall_mem_cons.mpr ⟨trivial, List.forall_mem_cons.mpr ⟨fl_R_33, List.forall_mem_cons.mpr ⟨trivial, List.forall_mem_cons.mpr ⟨trivial, List.forall_mem_cons.mpr ⟨trivial, List.forall_mem_cons.mpr ⟨fl_R_33, List.forall_mem_cons.mpr ⟨trivial, List.forall_mem_cons.mpr ⟨trivial, List.forall_mem_cons.mpr ⟨trivial, List.forall_mem_cons.mpr ⟨trivial, List.forall_mem_cons.mpr ⟨trivial, List.forall_mem_cons.mpr ⟨trivial, List.forall_mem_cons.mpr ⟨trivial, List.forall_mem_cons.mpr ⟨trivial, List.forall_mem_cons.mpr ⟨trivial, List.forall_mem_cons.mpr ⟨trivial, List.forall_mem_cons.mpr ⟨trivial, List.forall_mem_cons.mpr ⟨trivial, List.forall_mem_cons.mpr ⟨trivial, List.forall_mem_cons.mpr ⟨trivial, List.forall_mem_cons.mpr ⟨trivial, List.forall_mem_cons.mpr ⟨trivial, List.forall_mem_cons.mpr ⟨trivial, List.forall_mem_cons.mpr ⟨trivial, List.forall_mem_cons.mpr ⟨trivial, List.forall_mem_cons.mpr ⟨trivial, List.forall_mem_cons.mpr ⟨trivial, List.forall_mem_cons.mpr ⟨trivial, List.forall_mem_cons.mpr ⟨trivial, List.forall_mem_cons.mpr ⟨trivial, List.forall_mem_cons.mpr ⟨trivial, List.forall_mem_cons.mpr ⟨trivial, List.forall_mem_cons.mpr ⟨trivial, List.forall_mem_cons.mpr ⟨trivial, List.forall_mem_cons.mpr ⟨trivial, List.forall_mem_cons.mpr ⟨trivial, List.forall_mem_cons.mpr ⟨trivial, List.forall_mem_cons.mpr ⟨trivial, List.forall_mem_cons.mpr ⟨trivial, List.forall_mem_cons.mpr ⟨trivial, List.forall_mem_cons.mpr ⟨trivial, List.forall_mem_cons.mpr ⟨trivial, List.forall_mem_cons.mpr ⟨trivial, List.forall_mem_cons.mpr ⟨trivial, List.forall_mem_cons.mpr ⟨trivial, List.forall_mem_cons.mpr ⟨trivial, List.forall_mem_cons.mpr ⟨trivial, List.forall_mem_cons.mpr ⟨trivial, List.forall_mem_cons.mpr ⟨trivial, List.forall_mem_cons.mpr ⟨trivial, List.forall_mem_cons.mpr ⟨fl_R_33, List.forall_mem_cons.mpr ⟨trivial, List.forall_mem_cons.mpr ⟨trivial, List.forall_mem_cons.mpr ⟨trivial, List.forall_mem_cons.mpr ⟨trivial, List.forall_mem_cons.mpr ⟨trivial, List.forall_mem_cons.mpr ⟨trivial, List.forall_mem_cons.mpr ⟨trivial, List.forall_mem_cons.mpr ⟨trivial, List.forall_mem_cons.mpr ⟨trivial, List.forall_mem_cons.mpr ⟨trivial, List.forall_mem_cons.mpr ⟨trivial, fun _ h => absurd h List.not_mem_nil⟩⟩⟩⟩⟩⟩⟩⟩⟩⟩⟩⟩⟩⟩⟩⟩⟩⟩⟩⟩⟩⟩⟩⟩⟩⟩⟩⟩⟩⟩⟩⟩⟩⟩⟩⟩⟩⟩⟩⟩⟩⟩⟩⟩⟩⟩⟩⟩⟩⟩⟩⟩⟩⟩⟩⟩⟩⟩⟩⟩⟩⟩⟩⟩⟩⟩⟩⟩⟩⟩⟩⟩⟩⟩⟩⟩⟩⟩⟩⟩⟩⟩⟩⟩⟩⟩⟩⟩⟩⟩⟩⟩⟩⟩⟩⟩⟩⟩⟩⟩⟩⟩⟩⟩⟩⟩⟩⟩⟩⟩⟩⟩⟩⟩⟩⟩⟩⟩⟩⟩⟩⟩⟩⟩
theorem cw_R_share : cl_V M_R_share 1 := ⟨⟨wd_506, wd_5, ⟨by decide, by decide⟩, by decide +kernel⟩, wd_504, wd_505⟩
def T_R_of : List En := [(0, .aload_n 0, 1, 1, 0, 0), (1, .iload_n 1, 1, 2, 0, 0), (2, .invokevirtual 99, 3, 5, 0, 0), (5, .ifCond .eq 11, 3, 8, 16, 0), (8, .aload_n 0, 1, 9, 0, 0), (9, .iload_n 2, 1, 10, 0, 0), (10, .invokevirtual 80, 3, 13, 0, 0), (13, .ifCond .ne 7, 3, 16, 20, 0), (16, .iconst (-1), 1, 17, 0, 0), (17, .goto 31, 3, 20, 48, 0), (20, .aload_n 0, 1, 21, 0, 0), (21, .iload_n 2, 1, 22, 0, 0), (22, .invokevirtual 68, 3, 25, 0, 0), (25, .iconst (-1), 1, 26, 0, 0), (26, .if_icmp .ne 7, 3, 29, 33, 0), (29, .iconst 0, 1, 30, 0, 0), (30, .goto 18, 3, 33, 48, 0), (33, .aload_n 0, 1, 34, 0, 0), (34, .getfield 33, 3, 37, 4, 10), (37, .bipush 40, 2, 39, 0, 0), (39, .iload_n 1, 1, 40, 0, 0), (40, .imul, 1, 41, 0, 0), (41, .aload_n 0, 1, 42, 0, 0), (42, .iload_n 2, 1, 43, 0, 0), (43, .invokevirtual 68, 3, 46, 0, 0), (46, .iadd, 1, 47, 0, 0), (47, .iaload, 1, 48, 0, 0), (48, .ireturn, 1, 49, 0, 0)]
def M_R_of : Md := (⟨"SearchGridsModel", "of", "(II)I"⟩, prog_6_method_23_code, 3, some .int, T_R_of)
theorem ok_R_of : md_ok M_R_of := ⟨by decide +kernel, List.forall_mem_cons.mpr ⟨trivial, List.forall_mem_cons.mpr ⟨trivial, List.forall_mem_cons.mpr ⟨trivial, List.forall_mem_cons.mpr ⟨trivial, List.forall_mem_cons.mpr ⟨trivial, List.forall_mem_cons.mpr ⟨trivial, List.forall_mem_cons.mpr ⟨trivial, List.forall_mem_cons.mpr ⟨trivial, List.forall_mem_cons.mpr ⟨trivial, List.forall_mem_cons.mpr ⟨trivial, List.forall_mem_cons.mpr ⟨trivial, List.forall_mem_cons.mpr ⟨trivial, List.forall_mem_cons.mpr ⟨trivial, List.forall_mem_cons.mpr ⟨trivial, List.forall_mem_cons.mpr ⟨trivial, List.forall_mem_cons.mpr ⟨trivial, List.forall_mem_cons.mpr ⟨trivial, List.forall_mem_cons.mpr ⟨trivial, List.forall_mem_cons.mpr ⟨fl_R_33, List.forall_mem_cons.mpr ⟨trivial, List.forall_mem_cons.mpr ⟨trivial, List.forall_mem_cons.mpr ⟨trivial, List.forall_mem_cons.mpr ⟨trivial, List.forall_mem_cons.mpr ⟨trivial, List.forall_mem_cons.mpr ⟨trivial, List.forall_mem_cons.mpr ⟨trivial, List.forall_mem_cons.mpr ⟨trivial, List.forall_mem_cons.mpr ⟨trivial, fun _ h => absurd h List.not_mem_nil⟩⟩⟩⟩⟩⟩⟩⟩⟩⟩⟩⟩⟩⟩⟩⟩⟩⟩⟩⟩⟩⟩⟩⟩⟩⟩⟩⟩⟩
theorem cw_R_of : cl_V M_R_of 2 := ⟨⟨wd_535, wd_5, ⟨by decide, by decide⟩, by decide +kernel⟩, wd_533, wd_534⟩
def T_R_tried : List En := [(0, .aload_n 0, 1, 1, 0, 0), (1, .getfield 65, 3, 4, 4, 1), (4, .aload_n 0, 1, 5, 0, 0), (5, .getfield 62, 3, 8, 4, 6), (8, .imul, 1, 9, 0, 0), (9, .istore_n 1, 1, 10, 0, 0), (10, .aload_n 0, 1, 11, 0, 0), (11, .invokevirtual 133, 3, 14, 0, 0), (14, .istore_n 2, 1, 15, 0, 0), (15, .iload_n 1, 1, 16, 0, 0), (16, .bipush 12, 2, 18, 0, 0), (18, .if_icmp .gt 8, 3, 21, 26, 0), (21, .iload_n 2, 1, 22, 0, 0), (22, .iconst 5, 1, 23, 0, 0), (23, .if_icmp .le 5, 3, 26, 28, 0), (26, .iconst 0, 1, 27, 0, 0), (27, .ireturn, 1, 28, 0, 0), (28, .aload_n 0, 1, 29, 0, 0), (29, .aload_n 0, 1, 30, 0, 0), (30, .getfield 33, 3, 33, 4, 10), (33, .invokevirtual 126, 3, 36, 0, 0), (36, .lstore_n 3, 1, 37, 0, 0), (37, .aload_n 0, 1, 38, 0, 0), (38, .iload_n 1, 1, 39, 0, 0), (39, .iload_n 2, 1, 40, 0, 0), (40, .lload_n 3, 1, 41, 0, 0), (41, .invokevirtual 137, 3, 44, 0, 0), (44, .ifCond .ne 7, 3, 47, 51, 0), (47, .iconst 1, 1, 48, 0, 0), (48, .goto 4, 3, 51, 52, 0), (51, .iconst 0, 1, 52, 0, 0), (52, .ireturn, 1, 53, 0, 0)]
def M_R_tried : Md := (⟨"SearchGridsModel", "tried", "()Z"⟩, prog_6_method_24_code, 5, some .boolean, T_R_tried)
theorem ok_R_tried : md_ok M_R_tried := ⟨by decide +kernel, List.forall_mem_cons.mpr ⟨trivial, List.forall_mem_cons.mpr ⟨fl_R_65, List.forall_mem_cons.mpr ⟨trivial, List.forall_mem_cons.mpr ⟨fl_R_62, List.forall_mem_cons.mpr ⟨trivial, List.forall_mem_cons.mpr ⟨trivial, List.forall_mem_cons.mpr ⟨trivial, List.forall_mem_cons.mpr ⟨trivial, List.forall_mem_cons.mpr ⟨trivial, List.forall_mem_cons.mpr ⟨trivial, List.forall_mem_cons.mpr ⟨trivial, List.forall_mem_cons.mpr ⟨trivial, List.forall_mem_cons.mpr ⟨trivial, List.forall_mem_cons.mpr ⟨trivial, List.forall_mem_cons.mpr ⟨trivial, List.forall_mem_cons.mpr ⟨trivial, List.forall_mem_cons.mpr ⟨trivial, List.forall_mem_cons.mpr ⟨trivial, List.forall_mem_cons.mpr ⟨trivial, List.forall_mem_cons.mpr ⟨fl_R_33, List.forall_mem_cons.mpr ⟨trivial, List.forall_mem_cons.mpr ⟨trivial, List.forall_mem_cons.mpr ⟨trivial, List.forall_mem_cons.mpr ⟨trivial, List.forall_mem_cons.mpr ⟨trivial, List.forall_mem_cons.mpr ⟨trivial, List.forall_mem_cons.mpr ⟨trivial, List.forall_mem_cons.mpr ⟨trivial, List.forall_mem_cons.mpr ⟨trivial, List.forall_mem_cons.mpr ⟨trivial, List.forall_mem_cons.mpr ⟨trivial, List.forall_mem_cons.mpr ⟨trivial, fun _ h => absurd h List.not_mem_nil⟩⟩⟩⟩⟩⟩⟩⟩⟩⟩⟩⟩⟩⟩⟩⟩⟩⟩⟩⟩⟩⟩⟩⟩⟩⟩⟩⟩⟩⟩⟩⟩⟩
theorem cw_R_tried : cl_V M_R_tried 0 := ⟨⟨wd_539, wd_5, ⟨by decide, by decide⟩, by decide +kernel⟩, wd_537, wd_538⟩
def T_R_isBetter : List En := [(0, .iload_n 1, 1, 1, 0, 0), (1, .ifCond .ne 5, 3, 4, 6, 0), (4, .iconst 0, 1, 5, 0, 0), (5, .ireturn, 1, 6, 0, 0), (6, .iconst 0, 1, 7, 0, 0), (7, .istore 5, 2, 9, 0, 0), (9, .iload 5, 2, 11, 0, 0), (11, .sipush 160, 3, 14, 0, 0), (14, .if_icmp .ge 17, 3, 17, 31, 0), (17, .aload_n 0, 1, 18, 0, 0), (18, .getfield 36, 3, 21, 4, 11), (21, .iload 5, 2, 23, 0, 0), (23, .iconst 0, 1, 24, 0, 0), (24, .iastore, 1, 25, 0, 0), (25, .iinc 5 1, 3, 28, 0, 0), (28, .goto (-19), 3, 31, 9, 0), (31, .aload_n 0, 1, 32, 0, 0), (32, .getfield 36, 3, 35, 4, 11), (35, .aload_n 0, 1, 36, 0, 0), (36, .iconst 0, 1, 37, 0, 0), (37, .invokevirtual 140, 3, 40, 0, 0), (40, .iload_n 2, 1, 41, 0, 0), (41, .iastore, 1, 42, 0, 0), (42, .iconst 1, 1, 43, 0, 0), (43, .istore 5, 2, 45, 0, 0), (45, .iload 5, 2, 47, 0, 0), (47, .ifCond .eq 183, 3, 50, 230, 0), (50, .iconst 1, 1, 51, 0, 0), (51, .istore 6, 2, 53, 0, 0), (53, .iconst 0, 1, 54, 0, 0), (54, .istore 7, 2, 56, 0, 0), (56, .iload 7, 2, 58, 0, 0), (58, .aload_n 0, 1, 59, 0, 0), (59, .getfield 62, 3, 62, 4, 6), (62, .if_icmp .ge 40, 3, 65, 102, 0), (65, .iload 6, 2, 67, 0, 0), (67, .ifCond .eq 26, 3, 70, 93, 0), (70, .aload_n 0, 1, 71, 0, 0), (71, .aload_n 0, 1, 72, 0, 0), (72, .getfield 36, 3, 75, 4, 11), (75, .iload 7, 2, 77, 0, 0), (77, .invokevirtual 122, 3, 80, 0, 0), (80, .aload_n 0, 1, 81, 0, 0), (81, .iload 7, 2, 83, 0, 0), (83, .invokevirtual 130, 3, 86, 0, 0), (86, .if_icmp .gt 7, 3, 89, 93, 0), (89, .iconst 1, 1, 90, 0, 0), (90, .goto 4, 3, 93, 94, 0), (93, .iconst 0, 1, 94, 0, 0), (94, .istore 6, 2, 96, 0, 0), (96, .iinc 7 1, 3, 99, 0, 0), (99, .goto (-43), 3, 102, 56, 0), (102, .iload 6, 2, 104, 0, 0), (104, .ifCond .eq 18, 3, 107, 122, 0), (107, .aload_n 0, 1, 108, 0, 0), (108, .aload_n 0, 1, 109, 0, 0), (109, .getfield 36, 3, 112, 4, 11), (112, .invokevirtual 126, 3, 115, 0, 0), (115, .lload_n 3, 1, 116, 0, 0), (116, .lcmp, 1, 117, 0, 0), (117, .ifCond .le 5, 3, 120, 122, 0), (120, .iconst 1, 1, 121, 0, 0), (121, .ireturn, 1, 122, 0, 0), (122, .iconst 0, 1, 123, 0, 0), (123, .istore 7, 2, 125, 0, 0), (125, .iload 7, 2, 127, 0, 0), (127, .iload_n 1, 1, 128, 0, 0), (128, .if_icmp .ge 23, 3, 131, 151, 0), (131, .aload_n 0, 1, 132, 0, 0), (132, .getfield 36, 3, 135, 4, 11), (135, .aload_n 0, 1, 136, 0, 0), (136, .iload 7, 2, 138, 0, 0), (138, .invokevirtual 140, 3, 141, 0, 0), (141, .iaload, 1, 142, 0, 0), (142, .ifCond .ne 9, 3, 145, 151, 0), (145, .iinc 7 1, 3, 148, 0, 0), (148, .goto (-23), 3, 151, 125, 0), (151, .iload 7, 2, 153, 0, 0), (153, .iload_n 1, 1, 154, 0, 0), (154, .iconst 1, 1, 155, 0, 0), (155, .isub, 1, 156, 0, 0), (156, .if_icmp .ge 7, 3, 159, 163, 0), (159, .iconst 1, 1, 160, 0, 0), (160, .goto 4, 3, 163, 164, 0), (163, .iconst 0, 1, 164, 0, 0), (164, .istore 5, 2, 166, 0, 0), (166, .iload 5, 2, 168, 0, 0), (168, .ifCond .eq 59, 3, 171, 227, 0), (171, .aload_n 0, 1, 172, 0, 0), (172, .getfield 36, 3, 175, 4, 11), (175, .aload_n 0, 1, 176, 0, 0), (176, .iload 7, 2, 178, 0, 0), (178, .invokevirtual 140, 3, 181, 0, 0), (181, .iaload, 1, 182, 0, 0), (182, .iconst 1, 1, 183, 0, 0), (183, .isub, 1, 184, 0, 0), (184, .istore 8, 2, 186, 0, 0), (186, .aload_n 0, 1, 187, 0, 0), (187, .getfield 36, 3, 190, 4, 11), (190, .aload_n 0, 1, 191, 0, 0), (191, .iload 7, 2, 193, 0, 0), (193, .invokevirtual 140, 3, 196, 0, 0), (196, .iconst 0, 1, 197, 0, 0), (197, .iastore, 1, 198, 0, 0), (198, .aload_n 0, 1, 199, 0, 0), (199, .getfield 36, 3, 202, 4, 11), (202, .aload_n 0, 1, 203, 0, 0), (203, .iload 7, 2, 205, 0, 0), (205, .iconst 1, 1, 206, 0, 0), (206, .iadd, 1, 207, 0, 0), (207, .invokevirtual 140, 3, 210, 0, 0), (210, .dup2, 1, 211, 0, 0), (211, .iaload, 1, 212, 0, 0), (212, .iconst 1, 1, 213, 0, 0), (213, .iadd, 1, 214, 0, 0), (214, .iastore, 1, 215, 0, 0), (215, .aload_n 0, 1, 216, 0, 0), (216, .getfield 36, 3, 219, 4, 11), (219, .aload_n 0, 1, 220, 0, 0), (220, .iconst 0, 1, 221, 0, 0), (221, .invokevirtual 140, 3, 224, 0, 0), (224, .iload 8, 2, 226, 0, 0), (226, .iastore, 1, 227, 0, 0), (227, .goto (-182), 3, 230, 45, 0), (230, .iconst 0, 1, 231, 0, 0), (231, .ireturn, 1, 232, 0, 0)]
def M_R_isBetter : Md := (⟨"SearchGridsModel", "isBetter", "(IIJ)Z"⟩, prog_6_method_25_code, 9, some .boolean, T_R_isBetter)
theorem ok_R_isBetter : md_ok M_R_isBetter := ⟨by decide +kernel, List.forall_mem_cons.mpr ⟨trivial, List.forall_mem_cons.mpr ⟨trivial, List.forall_mem_cons.mpr ⟨trivial, List.forall_mem_cons.mpr ⟨trivial, List.forall_mem_cons.mpr ⟨trivial, List.forall_mem_cons.mpr ⟨trivial, List.forall_mem_cons.mpr ⟨trivial, List.forall_mem_cons.mpr ⟨trivial, List.forall_mem_cons.mpr ⟨trivial, List.forall_mem_cons.mpr ⟨trivial, List.forall_mem_cons.mpr ⟨fl_R_36, List.forall_mem_cons.mpr ⟨trivial, List.forall_mem_cons.mpr ⟨trivial, List.forall_mem_cons.mpr ⟨trivial, List.forall_mem_cons.mpr ⟨trivial, List.forall_mem_cons.mpr ⟨trivial, List.forall_mem_cons.mpr ⟨trivial, List.forall_mem_cons.mpr ⟨fl_R_36, List.forall_mem_cons.mpr ⟨trivial, List.forall_mem_cons.mpr ⟨trivial, List.forall_mem_cons.mpr ⟨trivial, List.forall_mem_cons.mpr ⟨trivial, List.forall_mem_cons.mpr ⟨trivial, List.forall_mem_cons.mpr ⟨trivial, List.forall_mem_cons.mpr ⟨trivial, List.forall_mem_cons.mpr ⟨trivial, List.forall_mem_cons.mpr ⟨trivial, List.forall_mem_cons.mpr ⟨trivial, List.forall_mem_cons.mpr ⟨trivial, List.forall_mem_cons.mpr ⟨trivial, List.forall_mem_cons.mpr ⟨trivial, List.forall_mem_cons.mpr ⟨trivial, List.forall_mem_cons.mpr ⟨trivial, List.forall_mem_cons.mpr ⟨fl_R_62, List.forall_mem_cons.mpr ⟨trivial, List.forall_mem_cons.mpr ⟨trivial, List.forall_mem_cons.mpr ⟨trivial, List.forall_mem_cons.mpr ⟨trivial, List.forall_mem_cons.mpr ⟨trivial, List.forall_mem_cons.mpr ⟨fl_R_36, List.forall_mem_cons.mpr ⟨trivial, List.forall_mem_cons.mpr ⟨trivial, List.forall_mem_cons.mpr ⟨trivial, List.forall_mem_cons.mpr ⟨trivial, List.forall_mem_cons.mpr ⟨trivial, List.forall_mem_cons.mpr ⟨trivial, List.forall_mem_cons.mpr ⟨trivial, List.forall_mem_cons.mpr ⟨trivial, List.forall_mem_cons.mpr ⟨trivial, List.forall_mem_cons.mpr ⟨trivial, List.forall_mem_cons.mpr ⟨trivial, List.forall_mem_cons.mpr ⟨trivial, List.forall_mem_cons.mpr ⟨trivial, List.forall_mem_cons.mpr ⟨trivial, List.forall_mem_cons.mpr ⟨trivial, List.forall_mem_cons.mpr ⟨trivial, List.forall_mem_cons.mpr ⟨fl_R_36, List.forall_mem_cons.mpr ⟨trivial, List.forall_mem_cons.mpr ⟨trivial, List.forall_mem_cons.mpr ⟨trivial, List.forall_mem_cons.mpr ⟨trivial, List.forall_mem_cons.mpr ⟨trivial, List.forall_mem_cons.mpr ⟨trivial, List.forall_mem_cons.mpr ⟨trivial, List.forall_mem_cons.mpr ⟨trivial, List.forall_mem_cons.mpr ⟨trivial, List.forall_mem_cons.mpr ⟨trivial, List.forall_mem_cons.mpr ⟨trivial, List.forall_mem_cons.mpr ⟨trivial, List.forall_mem_cons.mpr ⟨fl_R_36, List.forall_mem_cons.mpr ⟨trivial, List.forall_mem_cons.mpr ⟨trivial, List.forall_mem_cons.mpr ⟨trivial, List.forall_mem_cons.mpr ⟨trivial, List.forall_mem_cons.mpr ⟨trivial, List.forall_mem_cons.mpr ⟨trivial, List.forall_mem_cons.mpr ⟨trivial, List.forall_mem_cons.mpr ⟨trivial, List.forall_mem_cons.mpr ⟨trivial, List.forall_mem_cons.mpr ⟨trivial, List.forall_mem_cons.mpr ⟨trivial, List.forall_mem_cons.mpr ⟨trivial, List.forall_mem_cons.mpr ⟨trivial, List.forall_mem_cons.mpr ⟨trivial, List.forall_mem_cons.mpr ⟨trivial, List.forall_mem_cons.mpr ⟨trivial, List.forall_mem_cons.mpr ⟨trivial, List.forall_mem_cons.mpr ⟨trivial, List.forall_mem_cons.mpr ⟨trivial, List.forall_mem_cons.mpr ⟨fl_R_36, List.forall_mem_cons.mpr ⟨trivial, List.forall_mem_cons.mpr ⟨trivial, List.forall_mem_cons.mpr ⟨trivial, List.forall_mem_cons.mpr ⟨trivial, List.forall_mem_cons.mpr ⟨trivial, List.forall_mem_cons.mpr ⟨trivial, List.forall_mem_cons.mpr ⟨trivial, List.forall_mem_cons.mpr ⟨trivial, List.forall_mem_cons.mpr ⟨fl_R_36, List.forall_mem_cons.mpr ⟨trivial, List.forall_mem_cons.mpr ⟨trivial, List.forall_mem_cons.mpr ⟨trivial, List.forall_mem_cons.mpr ⟨trivial, List.forall_mem_cons.mpr ⟨trivial, List.forall_mem_cons.mpr ⟨trivial, List.forall_mem_cons.mpr ⟨fl_R_36, List.forall_mem_cons.mpr ⟨trivial, List.forall_mem_cons.mpr ⟨trivial, List.forall_mem_cons.mpr ⟨trivial, List.forall_mem_cons.mpr ⟨trivial, List.forall_mem_cons.mpr ⟨trivial, List.forall_mem_cons.mpr ⟨trivial, List.forall_mem_cons.mpr ⟨trivial, List.forall_mem_cons.mpr ⟨trivial, List.forall_mem_cons.mpr ⟨trivial, List.forall_mem_cons.mpr ⟨trivial, List.forall_mem_cons.mpr ⟨trivial, List.forall_mem_cons.mpr ⟨fl_R_36, List.forall_mem_cons.mpr ⟨trivial, List.forall_mem_cons.mpr ⟨trivial, List.forall_mem_cons.mpr ⟨trivial, List.forall_mem_cons.mpr ⟨trivial, List.forall_mem_cons.mpr ⟨trivial, List.forall_mem_cons.mpr ⟨trivial, List.forall_mem_cons.mpr ⟨trivial, List.forall_mem_cons.mpr ⟨trivial, fun _ h => absurd h List.not_mem_nil⟩⟩⟩⟩⟩⟩⟩⟩⟩⟩⟩⟩⟩⟩⟩⟩⟩⟩⟩⟩⟩⟩⟩⟩⟩⟩⟩⟩⟩⟩⟩⟩⟩⟩⟩⟩⟩⟩⟩⟩⟩⟩⟩⟩⟩⟩⟩⟩⟩⟩⟩⟩⟩⟩⟩⟩⟩⟩⟩⟩⟩⟩⟩⟩⟩⟩⟩⟩⟩⟩⟩⟩⟩⟩⟩⟩⟩⟩⟩⟩⟩⟩⟩⟩⟩⟩⟩⟩⟩⟩⟩⟩⟩⟩⟩⟩⟩⟩⟩⟩⟩⟩⟩⟩⟩⟩⟩⟩⟩⟩⟩⟩⟩⟩⟩⟩⟩⟩⟩⟩⟩⟩⟩⟩⟩⟩⟩
theorem cw_R_isBetter : cl_V M_R_isBetter 3 := ⟨⟨wd_543, wd_5, ⟨by decide, by decide⟩, by decide +kernel⟩, wd_542, sl_34⟩
def T_R_slot : List En := [(0, .bipush 40, 2, 2, 0, 0), (2, .iload_n 1, 1, 3, 0, 0), (3, .aload_n 0, 1, 4, 0, 0), (4, .getfield 65, 3, 7, 4, 1), (7, .idiv, 1, 8, 0, 0), (8, .imul, 1, 9, 0, 0), (9, .iload_n 1, 1, 10, 0, 0), (10, .aload_n 0, 1, 11, 0, 0), (11, .getfield 65, 3, 14, 4, 1), (14, .irem, 1, 15, 0, 0), (15, .iadd, 1, 16, 0, 0), (16, .ireturn, 1, 17, 0, 0)]
def M_R_slot : Md := (⟨"SearchGridsModel", "slot", "(I)I"⟩, prog_6_method_26_code, 2, some .int, T_R_slot)
theorem ok_R_slot : md_ok M_R_slot := ⟨by decide +kernel, List.forall_mem_cons.mpr ⟨trivial, List.forall_mem_cons.mpr ⟨trivial, List.forall_mem_cons.mpr ⟨trivial, List.forall_mem_cons.mpr ⟨fl_R_65, List.forall_mem_cons.mpr ⟨trivial, List.forall_mem_cons.mpr ⟨trivial, List.forall_mem_cons.mpr ⟨trivial, List.forall_mem_cons.mpr ⟨trivial, List.forall_mem_cons.mpr ⟨fl_R_65, List.forall_mem_cons.mpr ⟨trivial, List.forall_mem_cons.mpr ⟨trivial, List.forall_mem_cons.mpr ⟨trivial, fun _ h => absurd h List.not_mem_nil⟩⟩⟩⟩⟩⟩⟩⟩⟩⟩⟩⟩⟩
theorem cw_R_slot : cl_V M_R_slot 1 := ⟨⟨wd_547, wd_5, ⟨by decide, by decide⟩, by decide +kernel⟩, wd_546, sl_35⟩
def T_R_common : List En := [(0, .lload_n 0, 1, 1, 0, 0), (1, .lstore 4, 2, 3, 0, 0), (3, .lload_n 2, 1, 4, 0, 0), (4, .lstore 6, 2, 6, 0, 0), (6, .lload 6, 2, 8, 0, 0), (8, .lconst 0, 1, 9, 0, 0), (9, .lcmp, 1, 10, 0, 0), (10, .ifCond .eq 21, 3, 13, 31, 0), (13, .lload 4, 2, 15, 0, 0), (15, .lload 6, 2, 17, 0, 0), (17, .lrem, 1, 18, 0, 0), (18, .lstore 8, 2, 20, 0, 0), (20, .lload 6, 2, 22, 0, 0), (22, .lstore 4, 2, 24, 0, 0), (24, .lload 8, 2, 26, 0, 0), (26, .lstore 6, 2, 28, 0, 0), (28, .goto (-22), 3, 31, 6, 0), (31, .lload 4, 2, 33, 0, 0), (33, .lreturn, 1, 34, 0, 0)]
def M_R_common : Md := (⟨"SearchGridsModel", "common", "(JJ)J"⟩, prog_6_method_27_code, 10, some .long, T_R_common)
theorem ok_R_common : md_ok M_R_common := ⟨by decide +kernel, List.forall_mem_cons.mpr ⟨trivial, List.forall_mem_cons.mpr ⟨trivial, List.forall_mem_cons.mpr ⟨trivial, List.forall_mem_cons.mpr ⟨trivial, List.forall_mem_cons.mpr ⟨trivial, List.forall_mem_cons.mpr ⟨trivial, List.forall_mem_cons.mpr ⟨trivial, List.forall_mem_cons.mpr ⟨trivial, List.forall_mem_cons.mpr ⟨trivial, List.forall_mem_cons.mpr ⟨trivial, List.forall_mem_cons.mpr ⟨trivial, List.forall_mem_cons.mpr ⟨trivial, List.forall_mem_cons.mpr ⟨trivial, List.forall_mem_cons.mpr ⟨trivial, List.forall_mem_cons.mpr ⟨trivial, List.forall_mem_cons.mpr ⟨trivial, List.forall_mem_cons.mpr ⟨trivial, List.forall_mem_cons.mpr ⟨trivial, List.forall_mem_cons.mpr ⟨trivial, fun _ h => absurd h List.not_mem_nil⟩⟩⟩⟩⟩⟩⟩⟩⟩⟩⟩⟩⟩⟩⟩⟩⟩⟩⟩⟩
theorem cw_R_common : cl_S M_R_common 2 := ⟨⟨wd_562, wd_5, ⟨by decide, by decide⟩, by decide +kernel⟩, wd_561⟩
def T_R_part : List En := [(0, .iload 4, 2, 2, 0, 0), (2, .ifCond .lt 9, 3, 5, 11, 0), (5, .iload 4, 2, 7, 0, 0), (7, .iconst 1, 1, 8, 0, 0), (8, .if_icmp .le 7, 3, 11, 15, 0), (11, .ldc2_w 143, 3, 14, 0, 0), (14, .lreturn, 1, 15, 0, 0), (15, .lload_n 0, 1, 16, 0, 0), (16, .lconst 0, 1, 17, 0, 0), (17, .lcmp, 1, 18, 0, 0), (18, .ifCond .eq 9, 3, 21, 27, 0), (21, .lload_n 2, 1, 22, 0, 0), (22, .lconst 0, 1, 23, 0, 0), (23, .lcmp, 1, 24, 0, 0), (24, .ifCond .ne 7, 3, 27, 31, 0), (27, .iload 4, 2, 29, 0, 0), (29, .i2l, 1, 30, 0, 0), (30, .lreturn, 1, 31, 0, 0), (31, .lload_n 0, 1, 32, 0, 0), (32, .lload_n 2, 1, 33, 0, 0), (33, .invokestatic 145, 3, 36, 0, 0), (36, .lstore 5, 2, 38, 0, 0), (38, .iload 4, 2, 40, 0, 0), (40, .ifCond .ne 10, 3, 43, 50, 0), (43, .lload_n 0, 1, 44, 0, 0), (44, .lload 5, 2, 46, 0, 0), (46, .ldiv, 1, 47, 0, 0), (47, .goto 7, 3, 50, 54, 0), (50, .lload_n 2, 1, 51, 0, 0), (51, .lload 5, 2, 53, 0, 0), (53, .ldiv, 1, 54, 0, 0), (54, .lreturn, 1, 55, 0, 0)]
def M_R_part : Md := (⟨"SearchGridsModel", "part", "(JJI)J"⟩, prog_6_method_28_code, 7, some .long, T_R_part)
theorem ok_R_part : md_ok M_R_part := ⟨by decide +kernel, List.forall_mem_cons.mpr ⟨trivial, List.forall_mem_cons.mpr ⟨trivial, List.forall_mem_cons.mpr ⟨trivial, List.forall_mem_cons.mpr ⟨trivial, List.forall_mem_cons.mpr ⟨trivial, List.forall_mem_cons.mpr ⟨trivial, List.forall_mem_cons.mpr ⟨trivial, List.forall_mem_cons.mpr ⟨trivial, List.forall_mem_cons.mpr ⟨trivial, List.forall_mem_cons.mpr ⟨trivial, List.forall_mem_cons.mpr ⟨trivial, List.forall_mem_cons.mpr ⟨trivial, List.forall_mem_cons.mpr ⟨trivial, List.forall_mem_cons.mpr ⟨trivial, List.forall_mem_cons.mpr ⟨trivial, List.forall_mem_cons.mpr ⟨trivial, List.forall_mem_cons.mpr ⟨trivial, List.forall_mem_cons.mpr ⟨trivial, List.forall_mem_cons.mpr ⟨trivial, List.forall_mem_cons.mpr ⟨trivial, List.forall_mem_cons.mpr ⟨trivial, List.forall_mem_cons.mpr ⟨trivial, List.forall_mem_cons.mpr ⟨trivial, List.forall_mem_cons.mpr ⟨trivial, List.forall_mem_cons.mpr ⟨trivial, List.forall_mem_cons.mpr ⟨trivial, List.forall_mem_cons.mpr ⟨trivial, List.forall_mem_cons.mpr ⟨trivial, List.forall_mem_cons.mpr ⟨trivial, List.forall_mem_cons.mpr ⟨trivial, List.forall_mem_cons.mpr ⟨trivial, List.forall_mem_cons.mpr ⟨trivial, fun _ h => absurd h List.not_mem_nil⟩⟩⟩⟩⟩⟩⟩⟩⟩⟩⟩⟩⟩⟩⟩⟩⟩⟩⟩⟩⟩⟩⟩⟩⟩⟩⟩⟩⟩⟩⟩⟩⟩
theorem cw_R_part : cl_S M_R_part 3 := ⟨⟨wd_559, wd_5, ⟨by decide, by decide⟩, by decide +kernel⟩, wd_558⟩
def T_R_all : List En := [(0, .lconst 0, 1, 1, 0, 0), (1, .lstore_n 1, 1, 2, 0, 0), (2, .iconst 0, 1, 3, 0, 0), (3, .istore_n 3, 1, 4, 0, 0), (4, .iload_n 3, 1, 5, 0, 0), (5, .aload_n 0, 1, 6, 0, 0), (6, .getfield 65, 3, 9, 4, 1), (9, .if_icmp .ge 19, 3, 12, 28, 0), (12, .lload_n 1, 1, 13, 0, 0), (13, .aload_n 0, 1, 14, 0, 0), (14, .getfield 16, 3, 17, 4, 4), (17, .iload_n 3, 1, 18, 0, 0), (18, .iaload, 1, 19, 0, 0), (19, .i2l, 1, 20, 0, 0), (20, .ladd, 1, 21, 0, 0), (21, .lstore_n 1, 1, 22, 0, 0), (22, .iinc 3 1, 3, 25, 0, 0), (25, .goto (-21), 3, 28, 4, 0), (28, .lload_n 1, 1, 29, 0, 0), (29, .lreturn, 1, 30, 0, 0)]
def M_R_all : Md := (⟨"SearchGridsModel", "all", "()J"⟩, prog_6_method_29_code, 4, some .long, T_R_all)
theorem ok_R_all : md_ok M_R_all := ⟨by decide +kernel, List.forall_mem_cons.mpr ⟨trivial, List.forall_mem_cons.mpr ⟨trivial, List.forall_mem_cons.mpr ⟨trivial, List.forall_mem_cons.mpr ⟨trivial, List.forall_mem_cons.mpr ⟨trivial, List.forall_mem_cons.mpr ⟨trivial, List.forall_mem_cons.mpr ⟨fl_R_65, List.forall_mem_cons.mpr ⟨trivial, List.forall_mem_cons.mpr ⟨trivial, List.forall_mem_cons.mpr ⟨trivial, List.forall_mem_cons.mpr ⟨fl_R_16, List.forall_mem_cons.mpr ⟨trivial, List.forall_mem_cons.mpr ⟨trivial, List.forall_mem_cons.mpr ⟨trivial, List.forall_mem_cons.mpr ⟨trivial, List.forall_mem_cons.mpr ⟨trivial, List.forall_mem_cons.mpr ⟨trivial, List.forall_mem_cons.mpr ⟨trivial, List.forall_mem_cons.mpr ⟨trivial, List.forall_mem_cons.mpr ⟨trivial, fun _ h => absurd h List.not_mem_nil⟩⟩⟩⟩⟩⟩⟩⟩⟩⟩⟩⟩⟩⟩⟩⟩⟩⟩⟩⟩⟩
theorem cw_R_all : cl_V M_R_all 0 := ⟨⟨wd_556, wd_5, ⟨by decide, by decide⟩, by decide +kernel⟩, wd_555, sl_36⟩
def T_R_left : List En := [(0, .lconst 0, 1, 1, 0, 0), (1, .lstore_n 1, 1, 2, 0, 0), (2, .iconst 0, 1, 3, 0, 0), (3, .istore_n 3, 1, 4, 0, 0), (4, .iload_n 3, 1, 5, 0, 0), (5, .aload_n 0, 1, 6, 0, 0), (6, .getfield 65, 3, 9, 4, 1), (9, .if_icmp .ge 29, 3, 12, 38, 0), (12, .lload_n 1, 1, 13, 0, 0), (13, .aload_n 0, 1, 14, 0, 0), (14, .getfield 16, 3, 17, 4, 4), (17, .iload_n 3, 1, 18, 0, 0), (18, .iaload, 1, 19, 0, 0), (19, .i2l, 1, 20, 0, 0), (20, .aload_n 0, 1, 21, 0, 0), (21, .aload_n 0, 1, 22, 0, 0), (22, .getfield 39, 3, 25, 4, 12), (25, .iload_n 3, 1, 26, 0, 0), (26, .invokevirtual 118, 3, 29, 0, 0), (29, .lmul, 1, 30, 0, 0), (30, .ladd, 1, 31, 0, 0), (31, .lstore_n 1, 1, 32, 0, 0), (32, .iinc 3 1, 3, 35, 0, 0), (35, .goto (-31), 3, 38, 4, 0), (38, .lload_n 1, 1, 39, 0, 0), (39, .lreturn, 1, 40, 0, 0)]
def M_R_left : Md := (⟨"SearchGridsModel", "left", "()J"⟩, prog_6_method_30_code, 4, some .long, T_R_left)
theorem ok_R_left : md_ok M_R_left := ⟨by decide +kernel, List.forall_mem_cons.mpr ⟨trivial, List.forall_mem_cons.mpr ⟨trivial, List.forall_mem_cons.mpr ⟨trivial, List.forall_mem_cons.mpr ⟨trivial, List.forall_mem_cons.mpr ⟨trivial, List.forall_mem_cons.mpr ⟨trivial, List.forall_mem_cons.mpr ⟨fl_R_65, List.forall_mem_cons.mpr ⟨trivial, List.forall_mem_cons.mpr ⟨trivial, List.forall_mem_cons.mpr ⟨trivial, List.forall_mem_cons.mpr ⟨fl_R_16, List.forall_mem_cons.mpr ⟨trivial, List.forall_mem_cons.mpr ⟨trivial, List.forall_mem_cons.mpr ⟨trivial, List.forall_mem_cons.mpr ⟨trivial, List.forall_mem_cons.mpr ⟨trivial, List.forall_mem_cons.mpr ⟨fl_R_39, List.forall_mem_cons.mpr ⟨trivial, List.forall_mem_cons.mpr ⟨trivial, List.forall_mem_cons.mpr ⟨trivial, List.forall_mem_cons.mpr ⟨trivial, List.forall_mem_cons.mpr ⟨trivial, List.forall_mem_cons.mpr ⟨trivial, List.forall_mem_cons.mpr ⟨trivial, List.forall_mem_cons.mpr ⟨trivial, List.forall_mem_cons.mpr ⟨trivial, fun _ h => absurd h List.not_mem_nil⟩⟩⟩⟩⟩⟩⟩⟩⟩⟩⟩⟩⟩⟩⟩⟩⟩⟩⟩⟩⟩⟩⟩⟩⟩⟩⟩
theorem cw_R_left : cl_V M_R_left 0 := ⟨⟨wd_570, wd_5, ⟨by decide, by decide⟩, by decide +kernel⟩, wd_569, sl_37⟩
def T_R_odds : List En := [(0, .aload_n 0, 1, 1, 0, 0), (1, .iload_n 1, 1, 2, 0, 0), (2, .invokevirtual 80, 3, 5, 0, 0), (5, .ifCond .ne 7, 3, 8, 12, 0), (8, .ldc2_w 143, 3, 11, 0, 0), (11, .lreturn, 1, 12, 0, 0), (12, .aload_n 0, 1, 13, 0, 0), (13, .iload_n 1, 1, 14, 0, 0), (14, .invokevirtual 68, 3, 17, 0, 0), (17, .istore_n 3, 1, 18, 0, 0), (18, .iload_n 3, 1, 19, 0, 0), (19, .iconst (-1), 1, 20, 0, 0), (20, .if_icmp .ne 7, 3, 23, 27, 0), (23, .lconst 0, 1, 24, 0, 0), (24, .goto 10, 3, 27, 34, 0), (27, .aload_n 0, 1, 28, 0, 0), (28, .getfield 16, 3, 31, 4, 4), (31, .iload_n 3, 1, 32, 0, 0), (32, .iaload, 1, 33, 0, 0), (33, .i2l, 1, 34, 0, 0), (34, .aload_n 0, 1, 35, 0, 0), (35, .invokevirtual 149, 3, 38, 0, 0), (38, .iload_n 2, 1, 39, 0, 0), (39, .invokestatic 153, 3, 42, 0, 0), (42, .lreturn, 1, 43, 0, 0)]
def M_R_odds : Md := (⟨"SearchGridsModel", "odds", "(II)J"⟩, prog_6_method_31_code, 4, some .long, T_R_odds)
theorem ok_R_odds : md_ok M_R_odds := ⟨by decide +kernel, List.forall_mem_cons.mpr ⟨trivial, List.forall_mem_cons.mpr ⟨trivial, List.forall_mem_cons.mpr ⟨trivial, List.forall_mem_cons.mpr ⟨trivial, List.forall_mem_cons.mpr ⟨trivial, List.forall_mem_cons.mpr ⟨trivial, List.forall_mem_cons.mpr ⟨trivial, List.forall_mem_cons.mpr ⟨trivial, List.forall_mem_cons.mpr ⟨trivial, List.forall_mem_cons.mpr ⟨trivial, List.forall_mem_cons.mpr ⟨trivial, List.forall_mem_cons.mpr ⟨trivial, List.forall_mem_cons.mpr ⟨trivial, List.forall_mem_cons.mpr ⟨trivial, List.forall_mem_cons.mpr ⟨trivial, List.forall_mem_cons.mpr ⟨trivial, List.forall_mem_cons.mpr ⟨fl_R_16, List.forall_mem_cons.mpr ⟨trivial, List.forall_mem_cons.mpr ⟨trivial, List.forall_mem_cons.mpr ⟨trivial, List.forall_mem_cons.mpr ⟨trivial, List.forall_mem_cons.mpr ⟨trivial, List.forall_mem_cons.mpr ⟨trivial, List.forall_mem_cons.mpr ⟨trivial, List.forall_mem_cons.mpr ⟨trivial, fun _ h => absurd h List.not_mem_nil⟩⟩⟩⟩⟩⟩⟩⟩⟩⟩⟩⟩⟩⟩⟩⟩⟩⟩⟩⟩⟩⟩⟩⟩⟩⟩
theorem cw_R_odds : cl_V M_R_odds 2 := ⟨⟨wd_551, wd_5, ⟨by decide, by decide⟩, by decide +kernel⟩, wd_549, wd_550⟩
def T_R_after : List En := [(0, .aload_n 0, 1, 1, 0, 0), (1, .iload_n 1, 1, 2, 0, 0), (2, .invokevirtual 80, 3, 5, 0, 0), (5, .ifCond .ne 7, 3, 8, 12, 0), (8, .ldc2_w 143, 3, 11, 0, 0), (11, .lreturn, 1, 12, 0, 0), (12, .aload_n 0, 1, 13, 0, 0), (13, .getfield 55, 3, 16, 4, 18), (16, .iconst (-1), 1, 17, 0, 0), (17, .if_icmp .eq 22, 3, 20, 39, 0), (20, .aload_n 0, 1, 21, 0, 0), (21, .getfield 55, 3, 24, 4, 18), (24, .iload_n 1, 1, 25, 0, 0), (25, .if_icmp .ne 7, 3, 28, 32, 0), (28, .lconst 1, 1, 29, 0, 0), (29, .goto 4, 3, 32, 33, 0), (32, .lconst 0, 1, 33, 0, 0), (33, .lconst 1, 1, 34, 0, 0), (34, .iload_n 2, 1, 35, 0, 0), (35, .invokestatic 153, 3, 38, 0, 0), (38, .lreturn, 1, 39, 0, 0), (39, .aload_n 0, 1, 40, 0, 0), (40, .iload_n 1, 1, 41, 0, 0), (41, .invokevirtual 68, 3, 44, 0, 0), (44, .istore_n 3, 1, 45, 0, 0), (45, .iload_n 3, 1, 46, 0, 0), (46, .iconst (-1), 1, 47, 0, 0), (47, .if_icmp .ne 7, 3, 50, 54, 0), (50, .lconst 0, 1, 51, 0, 0), (51, .goto 20, 3, 54, 71, 0), (54, .aload_n 0, 1, 55, 0, 0), (55, .getfield 16, 3, 58, 4, 4), (58, .iload_n 3, 1, 59, 0, 0), (59, .iaload, 1, 60, 0, 0), (60, .i2l, 1, 61, 0, 0), (61, .aload_n 0, 1, 62, 0, 0), (62, .aload_n 0, 1, 63, 0, 0), (63, .getfield 39, 3, 66, 4, 12), (66, .iload_n 3, 1, 67, 0, 0), (67, .invokevirtual 118, 3, 70, 0, 0), (70, .lmul, 1, 71, 0, 0), (71, .aload_n 0, 1, 72, 0, 0), (72, .invokevirtual 157, 3, 75, 0, 0), (75, .iload_n 2, 1, 76, 0, 0), (76, .invokestatic 153, 3, 79, 0, 0), (79, .lreturn, 1, 80, 0, 0)]
def M_R_after : Md := (⟨"SearchGridsModel", "after", "(II)J"⟩, prog_6_method_32_code, 4, some .long, T_R_after)
theorem ok_R_after : md_ok M_R_after := ⟨by decide +kernel, List.forall_mem_cons.mpr ⟨trivial, List.forall_mem_cons.mpr ⟨trivial, List.forall_mem_cons.mpr ⟨trivial, List.forall_mem_cons.mpr ⟨trivial, List.forall_mem_cons.mpr ⟨trivial, List.forall_mem_cons.mpr ⟨trivial, List.forall_mem_cons.mpr ⟨trivial, List.forall_mem_cons.mpr ⟨fl_R_55, List.forall_mem_cons.mpr ⟨trivial, List.forall_mem_cons.mpr ⟨trivial, List.forall_mem_cons.mpr ⟨trivial, List.forall_mem_cons.mpr ⟨fl_R_55, List.forall_mem_cons.mpr ⟨trivial, List.forall_mem_cons.mpr ⟨trivial, List.forall_mem_cons.mpr ⟨trivial, List.forall_mem_cons.mpr ⟨trivial, List.forall_mem_cons.mpr ⟨trivial, List.forall_mem_cons.mpr ⟨trivial, List.forall_mem_cons.mpr ⟨trivial, List.forall_mem_cons.mpr ⟨trivial, List.forall_mem_cons.mpr ⟨trivial, List.forall_mem_cons.mpr ⟨trivial, List.forall_mem_cons.mpr ⟨trivial, List.forall_mem_cons.mpr ⟨trivial, List.forall_mem_cons.mpr ⟨trivial, List.forall_mem_cons.mpr ⟨trivial, List.forall_mem_cons.mpr ⟨trivial, List.forall_mem_cons.mpr ⟨trivial, List.forall_mem_cons.mpr ⟨trivial, List.forall_mem_cons.mpr ⟨trivial, List.forall_mem_cons.mpr ⟨trivial, List.forall_mem_cons.mpr ⟨fl_R_16, List.forall_mem_cons.mpr ⟨trivial, List.forall_mem_cons.mpr ⟨trivial, List.forall_mem_cons.mpr ⟨trivial, List.forall_mem_cons.mpr ⟨trivial, List.forall_mem_cons.mpr ⟨trivial, List.forall_mem_cons.mpr ⟨fl_R_39, List.forall_mem_cons.mpr ⟨trivial, List.forall_mem_cons.mpr ⟨trivial, List.forall_mem_cons.mpr ⟨trivial, List.forall_mem_cons.mpr ⟨trivial, List.forall_mem_cons.mpr ⟨trivial, List.forall_mem_cons.mpr ⟨trivial, List.forall_mem_cons.mpr ⟨trivial, List.forall_mem_cons.mpr ⟨trivial, fun _ h => absurd h List.not_mem_nil⟩⟩⟩⟩⟩⟩⟩⟩⟩⟩⟩⟩⟩⟩⟩⟩⟩⟩⟩⟩⟩⟩⟩⟩⟩⟩⟩⟩⟩⟩⟩⟩⟩⟩⟩⟩⟩⟩⟩⟩⟩⟩⟩⟩⟩⟩⟩
theorem cw_R_after : cl_V M_R_after 2 := ⟨⟨wd_566, wd_5, ⟨by decide, by decide⟩, by decide +kernel⟩, wd_564, wd_565⟩
def T_R_sums : List En := [(0, .aload_n 0, 1, 1, 0, 0), (1, .getfield 55, 3, 4, 4, 18), (4, .iconst (-1), 1, 5, 0, 0), (5, .if_icmp .ne 12, 3, 8, 17, 0), (8, .aload_n 0, 1, 9, 0, 0), (9, .invokevirtual 157, 3, 12, 0, 0), (12, .lconst 0, 1, 13, 0, 0), (13, .lcmp, 1, 14, 0, 0), (14, .ifCond .le 7, 3, 17, 21, 0), (17, .iconst 1, 1, 18, 0, 0), (18, .goto 4, 3, 21, 22, 0), (21, .iconst 0, 1, 22, 0, 0), (22, .ireturn, 1, 23, 0, 0)]
def M_R_sums : Md := (⟨"SearchGridsModel", "sums", "()Z"⟩, prog_6_method_33_code, 1, some .boolean, T_R_sums)
theorem ok_R_sums : md_ok M_R_sums := ⟨by decide +kernel, List.forall_mem_cons.mpr ⟨trivial, List.forall_mem_cons.mpr ⟨fl_R_55, List.forall_mem_cons.mpr ⟨trivial, List.forall_mem_cons.mpr ⟨trivial, List.forall_mem_cons.mpr ⟨trivial, List.forall_mem_cons.mpr ⟨trivial, List.forall_mem_cons.mpr ⟨trivial, List.forall_mem_cons.mpr ⟨trivial, List.forall_mem_cons.mpr ⟨trivial, List.forall_mem_cons.mpr ⟨trivial, List.forall_mem_cons.mpr ⟨trivial, List.forall_mem_cons.mpr ⟨trivial, List.forall_mem_cons.mpr ⟨trivial, fun _ h => absurd h List.not_mem_nil⟩⟩⟩⟩⟩⟩⟩⟩⟩⟩⟩⟩⟩⟩
theorem cw_R_sums : cl_V M_R_sums 0 := ⟨⟨wd_574, wd_5, ⟨by decide, by decide⟩, by decide +kernel⟩, wd_572, wd_573⟩
def T_R_found : List En := [(0, .lconst 0, 1, 1, 0, 0), (1, .lstore_n 2, 1, 2, 0, 0), (2, .iconst 0, 1, 3, 0, 0), (3, .istore 4, 2, 5, 0, 0), (5, .iload 4, 2, 7, 0, 0), (7, .aload_n 0, 1, 8, 0, 0), (8, .getfield 65, 3, 11, 4, 1), (11, .if_icmp .ge 19, 3, 14, 30, 0), (14, .lload_n 2, 1, 15, 0, 0), (15, .aload_n 0, 1, 16, 0, 0), (16, .iload 4, 2, 18, 0, 0), (18, .invokevirtual 113, 3, 21, 0, 0), (21, .i2l, 1, 22, 0, 0), (22, .ladd, 1, 23, 0, 0), (23, .lstore_n 2, 1, 24, 0, 0), (24, .iinc 4 1, 3, 27, 0, 0), (27, .goto (-22), 3, 30, 5, 0), (30, .aload_n 0, 1, 31, 0, 0), (31, .aload_n 0, 1, 32, 0, 0), (32, .getfield 33, 3, 35, 4, 10), (35, .invokevirtual 126, 3, 38, 0, 0), (38, .lload_n 2, 1, 39, 0, 0), (39, .ldc2_w 116, 3, 42, 0, 0), (42, .lmul, 1, 43, 0, 0), (43, .iload_n 1, 1, 44, 0, 0), (44, .invokestatic 153, 3, 47, 0, 0), (47, .lreturn, 1, 48, 0, 0)]
def M_R_found : Md := (⟨"SearchGridsModel", "found", "(I)J"⟩, prog_6_method_34_code, 5, some .long, T_R_found)
theorem ok_R_found : md_ok M_R_found := ⟨by decide +kernel, List.forall_mem_cons.mpr ⟨trivial, List.forall_mem_cons.mpr ⟨trivial, List.forall_mem_cons.mpr ⟨trivial, List.forall_mem_cons.mpr ⟨trivial, List.forall_mem_cons.mpr ⟨trivial, List.forall_mem_cons.mpr ⟨trivial, List.forall_mem_cons.mpr ⟨fl_R_65, List.forall_mem_cons.mpr ⟨trivial, List.forall_mem_cons.mpr ⟨trivial, List.forall_mem_cons.mpr ⟨trivial, List.forall_mem_cons.mpr ⟨trivial, List.forall_mem_cons.mpr ⟨trivial, List.forall_mem_cons.mpr ⟨trivial, List.forall_mem_cons.mpr ⟨trivial, List.forall_mem_cons.mpr ⟨trivial, List.forall_mem_cons.mpr ⟨trivial, List.forall_mem_cons.mpr ⟨trivial, List.forall_mem_cons.mpr ⟨trivial, List.forall_mem_cons.mpr ⟨trivial, List.forall_mem_cons.mpr ⟨fl_R_33, List.forall_mem_cons.mpr ⟨trivial, List.forall_mem_cons.mpr ⟨trivial, List.forall_mem_cons.mpr ⟨trivial, List.forall_mem_cons.mpr ⟨trivial, List.forall_mem_cons.mpr ⟨trivial, List.forall_mem_cons.mpr ⟨trivial, List.forall_mem_cons.mpr ⟨trivial, fun _ h => absurd h List.not_mem_nil⟩⟩⟩⟩⟩⟩⟩⟩⟩⟩⟩⟩⟩⟩⟩⟩⟩⟩⟩⟩⟩⟩⟩⟩⟩⟩⟩⟩
theorem cw_R_found : cl_V M_R_found 1 := ⟨⟨wd_578, wd_5, ⟨by decide, by decide⟩, by decide +kernel⟩, wd_576, wd_577⟩
def T_R_look : List En := [(0, .aload_n 0, 1, 1, 0, 0), (1, .iload_n 1, 1, 2, 0, 0), (2, .invokevirtual 99, 3, 5, 0, 0), (5, .ifCond .eq 59, 3, 8, 64, 0), (8, .aload_n 0, 1, 9, 0, 0), (9, .iload_n 2, 1, 10, 0, 0), (10, .invokevirtual 80, 3, 13, 0, 0), (13, .ifCond .eq 51, 3, 16, 64, 0), (16, .aload_n 0, 1, 17, 0, 0), (17, .iload_n 2, 1, 18, 0, 0), (18, .invokevirtual 68, 3, 21, 0, 0), (21, .iconst (-1), 1, 22, 0, 0), (22, .if_icmp .eq 42, 3, 25, 64, 0), (25, .aload_n 0, 1, 26, 0, 0), (26, .getfield 55, 3, 29, 4, 18), (29, .iconst (-1), 1, 30, 0, 0), (30, .if_icmp .ne 34, 3, 33, 64, 0), (33, .aload_n 0, 1, 34, 0, 0), (34, .getfield 92, 3, 37, 4, 13), (37, .sipush 200, 3, 40, 0, 0), (40, .if_icmp .eq 24, 3, 43, 64, 0), (43, .lload_n 3, 1, 44, 0, 0), (44, .lconst 1, 1, 45, 0, 0), (45, .lcmp, 1, 46, 0, 0), (46, .ifCond .lt 18, 3, 49, 64, 0), (49, .lload_n 3, 1, 50, 0, 0), (50, .ldc2_w 104, 3, 53, 0, 0), (53, .lcmp, 1, 54, 0, 0), (54, .ifCond .gt 10, 3, 57, 64, 0), (57, .lload 5, 2, 59, 0, 0), (59, .lconst 0, 1, 60, 0, 0), (60, .lcmp, 1, 61, 0, 0), (61, .ifCond .ge 5, 3, 64, 66, 0), (64, .iconst (-1), 1, 65, 0, 0), (65, .ireturn, 1, 66, 0, 0), (66, .aload_n 0, 1, 67, 0, 0), (67, .getfield 42, 3, 70, 4, 14), (70, .aload_n 0, 1, 71, 0, 0), (71, .getfield 92, 3, 74, 4, 13), (74, .iload_n 1, 1, 75, 0, 0), (75, .iastore, 1, 76, 0, 0), (76, .aload_n 0, 1, 77, 0, 0), (77, .getfield 45, 3, 80, 4, 15), (80, .aload_n 0, 1, 81, 0, 0), (81, .getfield 92, 3, 84, 4, 13), (84, .iload_n 2, 1, 85, 0, 0), (85, .iastore, 1, 86, 0, 0), (86, .aload_n 0, 1, 87, 0, 0), (87, .getfield 48, 3, 90, 4, 16), (90, .aload_n 0, 1, 91, 0, 0), (91, .getfield 92, 3, 94, 4, 13), (94, .lload_n 3, 1, 95, 0, 0), (95, .l2i, 1, 96, 0, 0), (96, .iastore, 1, 97, 0, 0), (97, .aload_n 0, 1, 98, 0, 0), (98, .getfield 51, 3, 101, 4, 17), (101, .aload_n 0, 1, 102, 0, 0), (102, .getfield 92, 3, 105, 4, 13), (105, .lload 5, 2, 107, 0, 0), (107, .lastore, 1, 108, 0, 0), (108, .aload_n 0, 1, 109, 0, 0), (109, .getfield 39, 3, 112, 4, 12), (112, .bipush 40, 2, 114, 0, 0), (114, .iload_n 1, 1, 115, 0, 0), (115, .imul, 1, 116, 0, 0), (116, .aload_n 0, 1, 117, 0, 0), (117, .iload_n 2, 1, 118, 0, 0), (118, .invokevirtual 68, 3, 121, 0, 0), (121, .iadd, 1, 122, 0, 0), (122, .dup2, 1, 123, 0, 0), (123, .iaload, 1, 124, 0, 0), (124, .lload_n 3, 1, 125, 0, 0), (125, .l2i, 1, 126, 0, 0), (126, .iadd, 1, 127, 0, 0), (127, .iastore, 1, 128, 0, 0), (128, .aload_n 0, 1, 129, 0, 0), (129, .dup, 1, 130, 0, 0), (130, .getfield 92, 3, 133, 4, 13), (133, .iconst 1, 1, 134, 0, 0), (134, .iadd, 1, 135, 0, 0), (135, .putfield 92, 3, 138, 4, 13), (138, .aload_n 0, 1, 139, 0, 0), (139, .getfield 92, 3, 142, 4, 13), (142, .iconst 1, 1, 143, 0, 0), (143, .isub, 1, 144, 0, 0), (144, .ireturn, 1, 145, 0, 0)]
def M_R_look : Md := (⟨"SearchGridsModel", "look", "(IIJJ)I"⟩, prog_6_method_35_code, 7, some .int, T_R_look)
theorem ok_R_look : md_ok M_R_look := ⟨by decide +kernel, List.forall_mem_cons.mpr ⟨trivial, List.forall_mem_cons.mpr ⟨trivial, List.forall_mem_cons.mpr ⟨trivial, List.forall_mem_cons.mpr ⟨trivial, List.forall_mem_cons.mpr ⟨trivial, List.forall_mem_cons.mpr ⟨trivial, List.forall_mem_cons.mpr ⟨trivial, List.forall_mem_cons.mpr ⟨trivial, List.forall_mem_cons.mpr ⟨trivial, List.forall_mem_cons.mpr ⟨trivial, List.forall_mem_cons.mpr ⟨trivial, List.forall_mem_cons.mpr ⟨trivial, List.forall_mem_cons.mpr ⟨trivial, List.forall_mem_cons.mpr ⟨trivial, List.forall_mem_cons.mpr ⟨fl_R_55, List.forall_mem_cons.mpr ⟨trivial, List.forall_mem_cons.mpr ⟨trivial, List.forall_mem_cons.mpr ⟨trivial, List.forall_mem_cons.mpr ⟨fl_R_92, List.forall_mem_cons.mpr ⟨trivial, List.forall_mem_cons.mpr ⟨trivial, List.forall_mem_cons.mpr ⟨trivial, List.forall_mem_cons.mpr ⟨trivial, List.forall_mem_cons.mpr ⟨trivial, List.forall_mem_cons.mpr ⟨trivial, List.forall_mem_cons.mpr ⟨trivial, List.forall_mem_cons.mpr ⟨trivial, List.forall_mem_cons.mpr ⟨trivial, List.forall_mem_cons.mpr ⟨trivial, List.forall_mem_cons.mpr ⟨trivial, List.forall_mem_cons.mpr ⟨trivial, List.forall_mem_cons.mpr ⟨trivial, List.forall_mem_cons.mpr ⟨trivial, List.forall_mem_cons.mpr ⟨trivial, List.forall_mem_cons.mpr ⟨trivial, List.forall_mem_cons.mpr ⟨trivial, List.forall_mem_cons.mpr ⟨fl_R_42, List.forall_mem_cons.mpr ⟨trivial, List.forall_mem_cons.mpr ⟨fl_R_92, List.forall_mem_cons.mpr ⟨trivial, List.forall_mem_cons.mpr ⟨trivial, List.forall_mem_cons.mpr ⟨trivial, List.forall_mem_cons.mpr ⟨fl_R_45, List.forall_mem_cons.mpr ⟨trivial, List.forall_mem_cons.mpr ⟨fl_R_92, List.forall_mem_cons.mpr ⟨trivial, List.forall_mem_cons.mpr ⟨trivial, List.forall_mem_cons.mpr ⟨trivial, List.forall_mem_cons.mpr ⟨fl_R_48, List.forall_mem_cons.mpr ⟨trivial, List.forall_mem_cons.mpr ⟨fl_R_92, List.forall_mem_cons.mpr ⟨trivial, List.forall_mem_cons.mpr ⟨trivial, List.forall_mem_cons.mpr ⟨trivial, List.forall_mem_cons.mpr ⟨trivial, List.forall_mem_cons.mpr ⟨fl_R_51, List.forall_mem_cons.mpr ⟨trivial, List.forall_mem_cons.mpr ⟨fl_R_92, List.forall_mem_cons.mpr ⟨trivial, List.forall_mem_cons.mpr ⟨trivial, List.forall_mem_cons.mpr ⟨trivial, List.forall_mem_cons.mpr ⟨fl_R_39, List.forall_mem_cons.mpr ⟨trivial, List.forall_mem_cons.mpr ⟨trivial, List.forall_mem_cons.mpr ⟨trivial, List.forall_mem_cons.mpr ⟨trivial, List.forall_mem_cons.mpr ⟨trivial, List.forall_mem_cons.mpr ⟨trivial, List.forall_mem_cons.mpr ⟨trivial, List.forall_mem_cons.mpr ⟨trivial, List.forall_mem_cons.mpr ⟨trivial, List.forall_mem_cons.mpr ⟨trivial, List.forall_mem_cons.mpr ⟨trivial, List.forall_mem_cons.mpr ⟨trivial, List.forall_mem_cons.mpr ⟨trivial, List.forall_mem_cons.mpr ⟨trivial, List.forall_mem_cons.mpr ⟨trivial, List.forall_mem_cons.mpr ⟨fl_R_92, List.forall_mem_cons.mpr ⟨trivial, List.forall_mem_cons.mpr ⟨trivial, List.forall_mem_cons.mpr ⟨fl_R_92, List.forall_mem_cons.mpr ⟨trivial, List.forall_mem_cons.mpr ⟨fl_R_92, List.forall_mem_cons.mpr ⟨trivial, List.forall_mem_cons.mpr ⟨trivial, List.forall_mem_cons.mpr ⟨trivial, fun _ h => absurd h List.not_mem_nil⟩⟩⟩⟩⟩⟩⟩⟩⟩⟩⟩⟩⟩⟩⟩⟩⟩⟩⟩⟩⟩⟩⟩⟩⟩⟩⟩⟩⟩⟩⟩⟩⟩⟩⟩⟩⟩⟩⟩⟩⟩⟩⟩⟩⟩⟩⟩⟩⟩⟩⟩⟩⟩⟩⟩⟩⟩⟩⟩⟩⟩⟩⟩⟩⟩⟩⟩⟩⟩⟩⟩⟩⟩⟩⟩⟩⟩⟩⟩⟩⟩⟩⟩⟩⟩⟩⟩
theorem cw_R_look : cl_V M_R_look 4 := ⟨⟨wd_582, wd_5, ⟨by decide, by decide⟩, by decide +kernel⟩, wd_580, wd_581⟩
def T_R_seen : List En := [(0, .aload_n 0, 1, 1, 0, 0), (1, .iload_n 1, 1, 2, 0, 0), (2, .invokevirtual 80, 3, 5, 0, 0), (5, .ifCond .eq 59, 3, 8, 64, 0), (8, .aload_n 0, 1, 9, 0, 0), (9, .iload_n 2, 1, 10, 0, 0), (10, .invokevirtual 99, 3, 13, 0, 0), (13, .ifCond .eq 51, 3, 16, 64, 0), (16, .aload_n 0, 1, 17, 0, 0), (17, .iload_n 1, 1, 18, 0, 0), (18, .invokevirtual 68, 3, 21, 0, 0), (21, .iconst (-1), 1, 22, 0, 0), (22, .if_icmp .eq 42, 3, 25, 64, 0), (25, .aload_n 0, 1, 26, 0, 0), (26, .getfield 55, 3, 29, 4, 18), (29, .iconst (-1), 1, 30, 0, 0), (30, .if_icmp .ne 34, 3, 33, 64, 0), (33, .aload_n 0, 1, 34, 0, 0), (34, .getfield 39, 3, 37, 4, 12), (37, .bipush 40, 2, 39, 0, 0), (39, .iload_n 2, 1, 40, 0, 0), (40, .imul, 1, 41, 0, 0), (41, .aload_n 0, 1, 42, 0, 0), (42, .iload_n 1, 1, 43, 0, 0), (43, .invokevirtual 68, 3, 46, 0, 0), (46, .iadd, 1, 47, 0, 0), (47, .iaload, 1, 48, 0, 0), (48, .ifCond .eq 16, 3, 51, 64, 0), (51, .aload_n 0, 1, 52, 0, 0), (52, .getfield 16, 3, 55, 4, 4), (55, .aload_n 0, 1, 56, 0, 0), (56, .iload_n 1, 1, 57, 0, 0), (57, .invokevirtual 68, 3, 60, 0, 0), (60, .iaload, 1, 61, 0, 0), (61, .ifCond .ne 5, 3, 64, 66, 0), (64, .iconst 0, 1, 65, 0, 0), (65, .ireturn, 1, 66, 0, 0), (66, .aload_n 0, 1, 67, 0, 0), (67, .iload_n 1, 1, 68, 0, 0), (68, .putfield 55, 3, 71, 4, 18), (71, .aload_n 0, 1, 72, 0, 0), (72, .invokevirtual 89, 3, 75, 0, 0), (75, .iconst 1, 1, 76, 0, 0), (76, .ireturn, 1, 77, 0, 0)]
def M_R_seen : Md := (⟨"SearchGridsModel", "seen", "(II)Z"⟩, prog_6_method_36_code, 3, some .boolean, T_R_seen)
theorem ok_R_seen : md_ok M_R_seen := ⟨by decide +kernel, List.forall_mem_cons.mpr ⟨trivial, List.forall_mem_cons.mpr ⟨trivial, List.forall_mem_cons.mpr ⟨trivial, List.forall_mem_cons.mpr ⟨trivial, List.forall_mem_cons.mpr ⟨trivial, List.forall_mem_cons.mpr ⟨trivial, List.forall_mem_cons.mpr ⟨trivial, List.forall_mem_cons.mpr ⟨trivial, List.forall_mem_cons.mpr ⟨trivial, List.forall_mem_cons.mpr ⟨trivial, List.forall_mem_cons.mpr ⟨trivial, List.forall_mem_cons.mpr ⟨trivial, List.forall_mem_cons.mpr ⟨trivial, List.forall_mem_cons.mpr ⟨trivial, List.forall_mem_cons.mpr ⟨fl_R_55, List.forall_mem_cons.mpr ⟨trivial, List.forall_mem_cons.mpr ⟨trivial, List.forall_mem_cons.mpr ⟨trivial, List.forall_mem_cons.mpr ⟨fl_R_39, List.forall_mem_cons.mpr ⟨trivial, List.forall_mem_cons.mpr ⟨trivial, List.forall_mem_cons.mpr ⟨trivial, List.forall_mem_cons.mpr ⟨trivial, List.forall_mem_cons.mpr ⟨trivial, List.forall_mem_cons.mpr ⟨trivial, List.forall_mem_cons.mpr ⟨trivial, List.forall_mem_cons.mpr ⟨trivial, List.forall_mem_cons.mpr ⟨trivial, List.forall_mem_cons.mpr ⟨trivial, List.forall_mem_cons.mpr ⟨fl_R_16, List.forall_mem_cons.mpr ⟨trivial, List.forall_mem_cons.mpr ⟨trivial, List.forall_mem_cons.mpr ⟨trivial, List.forall_mem_cons.mpr ⟨trivial, List.forall_mem_cons.mpr ⟨trivial, List.forall_mem_cons.mpr ⟨trivial, List.forall_mem_cons.mpr ⟨trivial, List.forall_mem_cons.mpr ⟨trivial, List.forall_mem_cons.mpr ⟨trivial, List.forall_mem_cons.mpr ⟨fl_R_55, List.forall_mem_cons.mpr ⟨trivial, List.forall_mem_cons.mpr ⟨trivial, List.forall_mem_cons.mpr ⟨trivial, List.forall_mem_cons.mpr ⟨trivial, fun _ h => absurd h List.not_mem_nil⟩⟩⟩⟩⟩⟩⟩⟩⟩⟩⟩⟩⟩⟩⟩⟩⟩⟩⟩⟩⟩⟩⟩⟩⟩⟩⟩⟩⟩⟩⟩⟩⟩⟩⟩⟩⟩⟩⟩⟩⟩⟩⟩⟩⟩
theorem cw_R_seen : cl_V M_R_seen 2 := ⟨⟨wd_586, wd_5, ⟨by decide, by decide⟩, by decide +kernel⟩, wd_584, wd_585⟩
def T_R_stops : List En := [(0, .aload_n 0, 1, 1, 0, 0), (1, .getfield 110, 3, 4, 4, 20), (4, .lconst 0, 1, 5, 0, 0), (5, .lcmp, 1, 6, 0, 0), (6, .ifCond .eq 12, 3, 9, 18, 0), (9, .aload_n 0, 1, 10, 0, 0), (10, .invokevirtual 149, 3, 13, 0, 0), (13, .lconst 0, 1, 14, 0, 0), (14, .lcmp, 1, 15, 0, 0), (15, .ifCond .ne 5, 3, 18, 20, 0), (18, .iconst (-1), 1, 19, 0, 0), (19, .ireturn, 1, 20, 0, 0), (20, .aload_n 0, 1, 21, 0, 0), (21, .getfield 55, 3, 24, 4, 18), (24, .iconst (-1), 1, 25, 0, 0), (25, .if_icmp .ne 38, 3, 28, 63, 0), (28, .aload_n 0, 1, 29, 0, 0), (29, .invokevirtual 149, 3, 32, 0, 0), (32, .ldc2_w 116, 3, 35, 0, 0), (35, .lmul, 1, 36, 0, 0), (36, .aload_n 0, 1, 37, 0, 0), (37, .invokevirtual 157, 3, 40, 0, 0), (40, .lsub, 1, 41, 0, 0), (41, .aload_n 0, 1, 42, 0, 0), (42, .getfield 110, 3, 45, 4, 20), (45, .lmul, 1, 46, 0, 0), (46, .aload_n 0, 1, 47, 0, 0), (47, .getfield 106, 3, 50, 4, 19), (50, .aload_n 0, 1, 51, 0, 0), (51, .invokevirtual 149, 3, 54, 0, 0), (54, .lmul, 1, 55, 0, 0), (55, .ldc2_w 116, 3, 58, 0, 0), (58, .lmul, 1, 59, 0, 0), (59, .lcmp, 1, 60, 0, 0), (60, .ifCond .lt 7, 3, 63, 67, 0), (63, .iconst 1, 1, 64, 0, 0), (64, .goto 4, 3, 67, 68, 0), (67, .iconst 0, 1, 68, 0, 0), (68, .ireturn, 1, 69, 0, 0)]
def M_R_stops : Md := (⟨"SearchGridsModel", "stops", "()I"⟩, prog_6_method_37_code, 1, some .int, T_R_stops)
theorem ok_R_stops : md_ok M_R_stops := ⟨by decide +kernel, List.forall_mem_cons.mpr ⟨trivial, List.forall_mem_cons.mpr ⟨fl_R_110, List.forall_mem_cons.mpr ⟨trivial, List.forall_mem_cons.mpr ⟨trivial, List.forall_mem_cons.mpr ⟨trivial, List.forall_mem_cons.mpr ⟨trivial, List.forall_mem_cons.mpr ⟨trivial, List.forall_mem_cons.mpr ⟨trivial, List.forall_mem_cons.mpr ⟨trivial, List.forall_mem_cons.mpr ⟨trivial, List.forall_mem_cons.mpr ⟨trivial, List.forall_mem_cons.mpr ⟨trivial, List.forall_mem_cons.mpr ⟨trivial, List.forall_mem_cons.mpr ⟨fl_R_55, List.forall_mem_cons.mpr ⟨trivial, List.forall_mem_cons.mpr ⟨trivial, List.forall_mem_cons.mpr ⟨trivial, List.forall_mem_cons.mpr ⟨trivial, List.forall_mem_cons.mpr ⟨trivial, List.forall_mem_cons.mpr ⟨trivial, List.forall_mem_cons.mpr ⟨trivial, List.forall_mem_cons.mpr ⟨trivial, List.forall_mem_cons.mpr ⟨trivial, List.forall_mem_cons.mpr ⟨trivial, List.forall_mem_cons.mpr ⟨fl_R_110, List.forall_mem_cons.mpr ⟨trivial, List.forall_mem_cons.mpr ⟨trivial, List.forall_mem_cons.mpr ⟨fl_R_106, List.forall_mem_cons.mpr ⟨trivial, List.forall_mem_cons.mpr ⟨trivial, List.forall_mem_cons.mpr ⟨trivial, List.forall_mem_cons.mpr ⟨trivial, List.forall_mem_cons.mpr ⟨trivial, List.forall_mem_cons.mpr ⟨trivial, List.forall_mem_cons.mpr ⟨trivial, List.forall_mem_cons.mpr ⟨trivial, List.forall_mem_cons.mpr ⟨trivial, List.forall_mem_cons.mpr ⟨trivial, List.forall_mem_cons.mpr ⟨trivial, fun _ h => absurd h List.not_mem_nil⟩⟩⟩⟩⟩⟩⟩⟩⟩⟩⟩⟩⟩⟩⟩⟩⟩⟩⟩⟩⟩⟩⟩⟩⟩⟩⟩⟩⟩⟩⟩⟩⟩⟩⟩⟩⟩⟩⟩⟩
theorem cw_R_stops : cl_V M_R_stops 0 := ⟨⟨wd_590, wd_5, ⟨by decide, by decide⟩, by decide +kernel⟩, wd_588, wd_589⟩
def T_R_rank : List En := [(0, .aload_n 0, 1, 1, 0, 0), (1, .getfield 55, 3, 4, 4, 18), (4, .iconst (-1), 1, 5, 0, 0), (5, .if_icmp .eq 24, 3, 8, 29, 0), (8, .aload_n 0, 1, 9, 0, 0), (9, .getfield 7, 3, 12, 4, 2), (12, .iload_n 1, 1, 13, 0, 0), (13, .iaload, 1, 14, 0, 0), (14, .aload_n 0, 1, 15, 0, 0), (15, .getfield 55, 3, 18, 4, 18), (18, .if_icmp .ne 7, 3, 21, 25, 0), (21, .lconst 1, 1, 22, 0, 0), (22, .goto 24, 3, 25, 46, 0), (25, .lconst 0, 1, 26, 0, 0), (26, .goto 20, 3, 29, 46, 0), (29, .aload_n 0, 1, 30, 0, 0), (30, .getfield 16, 3, 33, 4, 4), (33, .iload_n 1, 1, 34, 0, 0), (34, .iaload, 1, 35, 0, 0), (35, .i2l, 1, 36, 0, 0), (36, .aload_n 0, 1, 37, 0, 0), (37, .aload_n 0, 1, 38, 0, 0), (38, .getfield 39, 3, 41, 4, 12), (41, .iload_n 1, 1, 42, 0, 0), (42, .invokevirtual 118, 3, 45, 0, 0), (45, .lmul, 1, 46, 0, 0), (46, .lreturn, 1, 47, 0, 0)]
def M_R_rank : Md := (⟨"SearchGridsModel", "rank", "(I)J"⟩, prog_6_method_38_code, 2, some .long, T_R_rank)
theorem ok_R_rank : md_ok M_R_rank := ⟨by decide +kernel, List.forall_mem_cons.mpr ⟨trivial, List.forall_mem_cons.mpr ⟨fl_R_55, List.forall_mem_cons.mpr ⟨trivial, List.forall_mem_cons.mpr ⟨trivial, List.forall_mem_cons.mpr ⟨trivial, List.forall_mem_cons.mpr ⟨fl_R_7, List.forall_mem_cons.mpr ⟨trivial, List.forall_mem_cons.mpr ⟨trivial, List.forall_mem_cons.mpr ⟨trivial, List.forall_mem_cons.mpr ⟨fl_R_55, List.forall_mem_cons.mpr ⟨trivial, List.forall_mem_cons.mpr ⟨trivial, List.forall_mem_cons.mpr ⟨trivial, List.forall_mem_cons.mpr ⟨trivial, List.forall_mem_cons.mpr ⟨trivial, List.forall_mem_cons.mpr ⟨trivial, List.forall_mem_cons.mpr ⟨fl_R_16, List.forall_mem_cons.mpr ⟨trivial, List.forall_mem_cons.mpr ⟨trivial, List.forall_mem_cons.mpr ⟨trivial, List.forall_mem_cons.mpr ⟨trivial, List.forall_mem_cons.mpr ⟨trivial, List.forall_mem_cons.mpr ⟨fl_R_39, List.forall_mem_cons.mpr ⟨trivial, List.forall_mem_cons.mpr ⟨trivial, List.forall_mem_cons.mpr ⟨trivial, List.forall_mem_cons.mpr ⟨trivial, fun _ h => absurd h List.not_mem_nil⟩⟩⟩⟩⟩⟩⟩⟩⟩⟩⟩⟩⟩⟩⟩⟩⟩⟩⟩⟩⟩⟩⟩⟩⟩⟩⟩⟩
theorem cw_R_rank : cl_V M_R_rank 1 := ⟨⟨wd_598, wd_5, ⟨by decide, by decide⟩, by decide +kernel⟩, wd_597, sl_38⟩
def T_R_order : List En := [(0, .iload_n 1, 1, 1, 0, 0), (1, .ifCond .lt 11, 3, 4, 12, 0), (4, .iload_n 1, 1, 5, 0, 0), (5, .aload_n 0, 1, 6, 0, 0), (6, .getfield 65, 3, 9, 4, 1), (9, .if_icmp .lt 5, 3, 12, 14, 0), (12, .iconst (-1), 1, 13, 0, 0), (13, .ireturn, 1, 14, 0, 0), (14, .iconst 0, 1, 15, 0, 0), (15, .istore_n 2, 1, 16, 0, 0), (16, .iload_n 2, 1, 17, 0, 0), (17, .aload_n 0, 1, 18, 0, 0), (18, .getfield 65, 3, 21, 4, 1), (21, .if_icmp .ge 85, 3, 24, 106, 0), (24, .iconst 0, 1, 25, 0, 0), (25, .istore_n 3, 1, 26, 0, 0), (26, .iconst 0, 1, 27, 0, 0), (27, .istore 4, 2, 29, 0, 0), (29, .iload 4, 2, 31, 0, 0), (31, .aload_n 0, 1, 32, 0, 0), (32, .getfield 65, 3, 35, 4, 1), (35, .if_icmp .ge 53, 3, 38, 88, 0), (38, .iload_n 3, 1, 39, 0, 0), (39, .aload_n 0, 1, 40, 0, 0), (40, .iload 4, 2, 42, 0, 0), (42, .invokevirtual 160, 3, 45, 0, 0), (45, .aload_n 0, 1, 46, 0, 0), (46, .iload_n 2, 1, 47, 0, 0), (47, .invokevirtual 160, 3, 50, 0, 0), (50, .lcmp, 1, 51, 0, 0), (51, .ifCond .gt 24, 3, 54, 75, 0), (54, .aload_n 0, 1, 55, 0, 0), (55, .iload 4, 2, 57, 0, 0), (57, .invokevirtual 160, 3, 60, 0, 0), (60, .aload_n 0, 1, 61, 0, 0), (61, .iload_n 2, 1, 62, 0, 0), (62, .invokevirtual 160, 3, 65, 0, 0), (65, .lcmp, 1, 66, 0, 0), (66, .ifCond .ne 13, 3, 69, 79, 0), (69, .iload 4, 2, 71, 0, 0), (71, .iload_n 2, 1, 72, 0, 0), (72, .if_icmp .ge 7, 3, 75, 79, 0), (75, .iconst 1, 1, 76, 0, 0), (76, .goto 4, 3, 79, 80, 0), (79, .iconst 0, 1, 80, 0, 0), (80, .iadd, 1, 81, 0, 0), (81, .istore_n 3, 1, 82, 0, 0), (82, .iinc 4 1, 3, 85, 0, 0), (85, .goto (-56), 3, 88, 29, 0), (88, .iload_n 3, 1, 89, 0, 0), (89, .iload_n 1, 1, 90, 0, 0), (90, .if_icmp .ne 10, 3, 93, 100, 0), (93, .aload_n 0, 1, 94, 0, 0), (94, .getfield 7, 3, 97, 4, 2), (97, .iload_n 2, 1, 98, 0, 0), (98, .iaload, 1, 99, 0, 0), (99, .ireturn, 1, 100, 0, 0), (100, .iinc 2 1, 3, 103, 0, 0), (103, .goto (-87), 3, 106, 16, 0), (106, .iconst (-1), 1, 107, 0, 0), (107, .ireturn, 1, 108, 0, 0)]
def M_R_order : Md := (⟨"SearchGridsModel", "order", "(I)I"⟩, prog_6_method_39_code, 5, some .int, T_R_order)
theorem ok_R_order : md_ok M_R_order := ⟨by decide +kernel, List.forall_mem_cons.mpr ⟨trivial, List.forall_mem_cons.mpr ⟨trivial, List.forall_mem_cons.mpr ⟨trivial, List.forall_mem_cons.mpr ⟨trivial, List.forall_mem_cons.mpr ⟨fl_R_65, List.forall_mem_cons.mpr ⟨trivial, List.forall_mem_cons.mpr ⟨trivial, List.forall_mem_cons.mpr ⟨trivial, List.forall_mem_cons.mpr ⟨trivial, List.forall_mem_cons.mpr ⟨trivial, List.forall_mem_cons.mpr ⟨trivial, List.forall_mem_cons.mpr ⟨trivial, List.forall_mem_cons.mpr ⟨fl_R_65, List.forall_mem_cons.mpr ⟨trivial, List.forall_mem_cons.mpr ⟨trivial, List.forall_mem_cons.mpr ⟨trivial, List.forall_mem_cons.mpr ⟨trivial, List.forall_mem_cons.mpr ⟨trivial, List.forall_mem_cons.mpr ⟨trivial, List.forall_mem_cons.mpr ⟨trivial, List.forall_mem_cons.mpr ⟨fl_R_65, List.forall_mem_cons.mpr ⟨trivial, List.forall_mem_cons.mpr ⟨trivial, List.forall_mem_cons.mpr ⟨trivial, List.forall_mem_cons.mpr ⟨trivial, List.forall_mem_cons.mpr ⟨trivial, List.forall_mem_cons.mpr ⟨trivial, List.forall_mem_cons.mpr ⟨trivial, List.forall_mem_cons.mpr ⟨trivial, List.forall_mem_cons.mpr ⟨trivial, List.forall_mem_cons.mpr ⟨trivial, List.forall_mem_cons.mpr ⟨trivial, List.forall_mem_cons.mpr ⟨trivial, List.forall_mem_cons.mpr ⟨trivial, List.forall_mem_cons.mpr ⟨trivial, List.forall_mem_cons.mpr ⟨trivial, List.forall_mem_cons.mpr ⟨trivial, List.forall_mem_cons.mpr ⟨trivial, List.forall_mem_cons.mpr ⟨trivial, List.forall_mem_cons.mpr ⟨trivial, List.forall_mem_cons.mpr ⟨trivial, List.forall_mem_cons.mpr ⟨trivial, List.forall_mem_cons.mpr ⟨trivial, List.forall_mem_cons.mpr ⟨trivial, List.forall_mem_cons.mpr ⟨trivial, List.forall_mem_cons.mpr ⟨trivial, List.forall_mem_cons.mpr ⟨trivial, List.forall_mem_cons.mpr ⟨trivial, List.forall_mem_cons.mpr ⟨trivial, List.forall_mem_cons.mpr ⟨trivial, List.forall_mem_cons.mpr ⟨trivial, List.forall_mem_cons.mpr ⟨trivial, List.forall_mem_cons.mpr ⟨trivial, List.forall_mem_cons.mpr ⟨fl_R_7, List.forall_mem_cons.mpr ⟨trivial, List.forall_mem_cons.mpr ⟨trivial, List.forall_mem_cons.mpr ⟨trivial, List.forall_mem_cons.mpr ⟨trivial, List.forall_mem_cons.mpr ⟨trivial, List.forall_mem_cons.mpr ⟨trivial, List.forall_mem_cons.mpr ⟨trivial, fun _ h => absurd h List.not_mem_nil⟩⟩⟩⟩⟩⟩⟩⟩⟩⟩⟩⟩⟩⟩⟩⟩⟩⟩⟩⟩⟩⟩⟩⟩⟩⟩⟩⟩⟩⟩⟩⟩⟩⟩⟩⟩⟩⟩⟩⟩⟩⟩⟩⟩⟩⟩⟩⟩⟩⟩⟩⟩⟩⟩⟩⟩⟩⟩⟩⟩⟩⟩
theorem cw_R_order : cl_V M_R_order 1 := ⟨⟨wd_594, wd_5, ⟨by decide, by decide⟩, by decide +kernel⟩, wd_592, wd_593⟩
def T_R_log : List En := [(0, .iload_n 1, 1, 1, 0, 0), (1, .ifCond .lt 20, 3, 4, 21, 0), (4, .iload_n 1, 1, 5, 0, 0), (5, .aload_n 0, 1, 6, 0, 0), (6, .getfield 92, 3, 9, 4, 13), (9, .if_icmp .ge 12, 3, 12, 21, 0), (12, .iload_n 2, 1, 13, 0, 0), (13, .ifCond .lt 8, 3, 16, 21, 0), (16, .iload_n 2, 1, 17, 0, 0), (17, .iconst 3, 1, 18, 0, 0), (18, .if_icmp .le 5, 3, 21, 23, 0), (21, .iconst (-1), 1, 22, 0, 0), (22, .ireturn, 1, 23, 0, 0), (23, .iconst 0, 1, 24, 0, 0), (24, .istore_n 3, 1, 25, 0, 0), (25, .iload_n 3, 1, 26, 0, 0), (26, .aload_n 0, 1, 27, 0, 0), (27, .getfield 92, 3, 30, 4, 13), (30, .if_icmp .ge 129, 3, 33, 159, 0), (33, .iconst 0, 1, 34, 0, 0), (34, .istore 4, 2, 36, 0, 0), (36, .iconst 0, 1, 37, 0, 0), (37, .istore 5, 2, 39, 0, 0), (39, .iload 5, 2, 41, 0, 0), (41, .aload_n 0, 1, 42, 0, 0), (42, .getfield 92, 3, 45, 4, 13), (45, .if_icmp .ge 59, 3, 48, 104, 0), (48, .iload 4, 2, 50, 0, 0), (50, .aload_n 0, 1, 51, 0, 0), (51, .getfield 51, 3, 54, 4, 17), (54, .iload 5, 2, 56, 0, 0), (56, .laload, 1, 57, 0, 0), (57, .aload_n 0, 1, 58, 0, 0), (58, .getfield 51, 3, 61, 4, 17), (61, .iload_n 3, 1, 62, 0, 0), (62, .laload, 1, 63, 0, 0), (63, .lcmp, 1, 64, 0, 0), (64, .ifCond .lt 26, 3, 67, 90, 0), (67, .aload_n 0, 1, 68, 0, 0), (68, .getfield 51, 3, 71, 4, 17), (71, .iload 5, 2, 73, 0, 0), (73, .laload, 1, 74, 0, 0), (74, .aload_n 0, 1, 75, 0, 0), (75, .getfield 51, 3, 78, 4, 17), (78, .iload_n 3, 1, 79, 0, 0), (79, .laload, 1, 80, 0, 0), (80, .lcmp, 1, 81, 0, 0), (81, .ifCond .ne 13, 3, 84, 94, 0), (84, .iload 5, 2, 86, 0, 0), (86, .iload_n 3, 1, 87, 0, 0), (87, .if_icmp .ge 7, 3, 90, 94, 0), (90, .iconst 1, 1, 91, 0, 0), (91, .goto 4, 3, 94, 95, 0), (94, .iconst 0, 1, 95, 0, 0), (95, .iadd, 1, 96, 0, 0), (96, .istore 4, 2, 98, 0, 0), (98, .iinc 5 1, 3, 101, 0, 0), (101, .goto (-62), 3, 104, 39, 0), (104, .iload 4, 2, 106, 0, 0), (106, .iload_n 1, 1, 107, 0, 0), (107, .if_icmp .ne 46, 3, 110, 153, 0), (110, .iload_n 2, 1, 111, 0, 0), (111, .ifCond .ne 12, 3, 114, 123, 0), (114, .aload_n 0, 1, 115, 0, 0), (115, .getfield 42, 3, 118, 4, 14), (118, .iload_n 3, 1, 119, 0, 0), (119, .iaload, 1, 120, 0, 0), (120, .goto 32, 3, 123, 152, 0), (123, .iload_n 2, 1, 124, 0, 0), (124, .iconst 1, 1, 125, 0, 0), (125, .if_icmp .ne 12, 3, 128, 137, 0), (128, .aload_n 0, 1, 129, 0, 0), (129, .getfield 45, 3, 132, 4, 15), (132, .iload_n 3, 1, 133, 0, 0), (133, .iaload, 1, 134, 0, 0), (134, .goto 18, 3, 137, 152, 0), (137, .iload_n 2, 1, 138, 0, 0), (138, .iconst 2, 1, 139, 0, 0), (139, .if_icmp .ne 12, 3, 142, 151, 0), (142, .aload_n 0, 1, 143, 0, 0), (143, .getfield 48, 3, 146, 4, 16), (146, .iload_n 3, 1, 147, 0, 0), (147, .iaload, 1, 148, 0, 0), (148, .goto 4, 3, 151, 152, 0), (151, .iload_n 3, 1, 152, 0, 0), (152, .ireturn, 1, 153, 0, 0), (153, .iinc 3 1, 3, 156, 0, 0), (156, .goto (-131), 3, 159, 25, 0), (159, .iconst (-1), 1, 160, 0, 0), (160, .ireturn, 1, 161, 0, 0)]
def M_R_log : Md := (⟨"SearchGridsModel", "log", "(II)I"⟩, prog_6_method_40_code, 6, some .int, T_R_log)
theorem ok_R_log : md_ok M_R_log := ⟨by decide +kernel, List.forall_mem_cons.mpr ⟨trivial, List.forall_mem_cons.mpr ⟨trivial, List.forall_mem_cons.mpr ⟨trivial, List.forall_mem_cons.mpr ⟨trivial, List.forall_mem_cons.mpr ⟨fl_R_92, List.forall_mem_cons.mpr ⟨trivial, List.forall_mem_cons.mpr ⟨trivial, List.forall_mem_cons.mpr ⟨trivial, List.forall_mem_cons.mpr ⟨trivial, List.forall_mem_cons.mpr ⟨trivial, List.forall_mem_cons.mpr ⟨trivial, List.forall_mem_cons.mpr ⟨trivial, List.forall_mem_cons.mpr ⟨trivial, List.forall_mem_cons.mpr ⟨trivial, List.forall_mem_cons.mpr ⟨trivial, List.forall_mem_cons.mpr ⟨trivial, List.forall_mem_cons.mpr ⟨trivial, List.forall_mem_cons.mpr ⟨fl_R_92, List.forall_mem_cons.mpr ⟨trivial, List.forall_mem_cons.mpr ⟨trivial, List.forall_mem_cons.mpr ⟨trivial, List.forall_mem_cons.mpr ⟨trivial, List.forall_mem_cons.mpr ⟨trivial, List.forall_mem_cons.mpr ⟨trivial, List.forall_mem_cons.mpr ⟨trivial, List.forall_mem_cons.mpr ⟨fl_R_92, List.forall_mem_cons.mpr ⟨trivial, List.forall_mem_cons.mpr ⟨trivial, List.forall_mem_cons.mpr ⟨trivial, List.forall_mem_cons.mpr ⟨fl_R_51, List.forall_mem_cons.mpr ⟨trivial, List.forall_mem_cons.mpr ⟨trivial, List.forall_mem_cons.mpr ⟨trivial, List.forall_mem_cons.mpr ⟨fl_R_51, List.forall_mem_cons.mpr ⟨trivial, List.forall_mem_cons.mpr ⟨trivial, List.forall_mem_cons.mpr ⟨trivial, List.forall_mem_cons.mpr ⟨trivial, List.forall_mem_cons.mpr ⟨trivial, List.forall_mem_cons.mpr ⟨fl_R_51, List.forall_mem_cons.mpr ⟨trivial, List.forall_mem_cons.mpr ⟨trivial, List.forall_mem_cons.mpr ⟨trivial, List.forall_mem_cons.mpr ⟨fl_R_51, List.forall_mem_cons.mpr ⟨trivial, List.forall_mem_cons.mpr ⟨trivial, List.forall_mem_cons.mpr ⟨trivial, List.forall_mem_cons.mpr ⟨trivial, List.forall_mem_cons.mpr ⟨trivial, List.forall_mem_cons.mpr ⟨trivial, List.forall_mem_cons.mpr ⟨trivial, List.forall_mem_cons.mpr ⟨trivial, List.forall_mem_cons.mpr ⟨trivial, List.forall_mem_cons.mpr ⟨trivial, List.forall_mem_cons.mpr ⟨trivial, List.forall_mem_cons.mpr ⟨trivial, List.forall_mem_cons.mpr ⟨trivial, List.forall_mem_cons.mpr ⟨trivial, List.forall_mem_cons.mpr ⟨trivial, List.forall_mem_cons.mpr ⟨trivial, List.forall_mem_cons.mpr ⟨trivial, List.forall_mem_cons.mpr ⟨trivial, List.forall_mem_cons.mpr ⟨trivial, List.forall_mem_cons.mpr ⟨trivial, List.forall_mem_cons.mpr ⟨fl_R_42, List.forall_mem_cons.mpr ⟨trivial, List.forall_mem_cons.mpr ⟨trivial, List.forall_mem_cons.mpr ⟨trivial, List.forall_mem_cons.mpr ⟨trivial, List.forall_mem_cons.mpr ⟨trivial, List.forall_mem_cons.mpr ⟨trivial, List.forall_mem_cons.mpr ⟨trivial, List.forall_mem_cons.mpr ⟨fl_R_45, List.forall_mem_cons.mpr ⟨trivial, List.forall_mem_cons.mpr ⟨trivial, List.forall_mem_cons.mpr ⟨trivial, List.forall_mem_cons.mpr ⟨trivial, List.forall_mem_cons.mpr ⟨trivial, List.forall_mem_cons.mpr ⟨trivial, List.forall_mem_cons.mpr ⟨trivial, List.forall_mem_cons.mpr ⟨fl_R_48, List.forall_mem_cons.mpr ⟨trivial, List.forall_mem_cons.mpr ⟨trivial, List.forall_mem_cons.mpr ⟨trivial, List.forall_mem_cons.mpr ⟨trivial, List.forall_mem_cons.mpr ⟨trivial, List.forall_mem_cons.mpr ⟨trivial, List.forall_mem_cons.mpr ⟨trivial, List.forall_mem_cons.mpr ⟨trivial, List.forall_mem_cons.mpr ⟨trivial, fun _ h => absurd h List.not_mem_nil⟩⟩⟩⟩⟩⟩⟩⟩⟩⟩⟩⟩⟩⟩⟩⟩⟩⟩⟩⟩⟩⟩⟩⟩⟩⟩⟩⟩⟩⟩⟩⟩⟩⟩⟩⟩⟩⟩⟩⟩⟩⟩⟩⟩⟩⟩⟩⟩⟩⟩⟩⟩⟩⟩⟩⟩⟩⟩⟩⟩⟩⟩⟩⟩⟩⟩⟩⟩⟩⟩⟩⟩⟩⟩⟩⟩⟩⟩⟩⟩⟩⟩⟩⟩⟩⟩⟩⟩⟩⟩⟩
theorem cw_R_log : cl_V M_R_log 2 := ⟨⟨wd_602, wd_5, ⟨by decide, by decide⟩, by decide +kernel⟩, wd_600, wd_601⟩
def T_R_line : List En := [(0, .aload_n 0, 1, 1, 0, 0), (1, .iload_n 1, 1, 2, 0, 0), (2, .invokevirtual 80, 3, 5, 0, 0), (5, .ifCond .eq 39, 3, 8, 44, 0), (8, .aload_n 0, 1, 9, 0, 0), (9, .iload_n 1, 1, 10, 0, 0), (10, .invokevirtual 68, 3, 13, 0, 0), (13, .iconst (-1), 1, 14, 0, 0), (14, .if_icmp .eq 30, 3, 17, 44, 0), (17, .iload_n 3, 1, 18, 0, 0), (18, .ifCond .lt 26, 3, 21, 44, 0), (21, .iload_n 3, 1, 22, 0, 0), (22, .iconst 1, 1, 23, 0, 0), (23, .if_icmp .gt 21, 3, 26, 44, 0), (26, .iload_n 2, 1, 27, 0, 0), (27, .ifCond .lt 17, 3, 30, 44, 0), (30, .iload_n 2, 1, 31, 0, 0), (31, .aload_n 0, 1, 32, 0, 0), (32, .getfield 13, 3, 35, 4, 3), (35, .aload_n 0, 1, 36, 0, 0), (36, .iload_n 1, 1, 37, 0, 0), (37, .invokevirtual 68, 3, 40, 0, 0), (40, .iaload, 1, 41, 0, 0), (41, .if_icmp .lt 5, 3, 44, 46, 0), (44, .iconst (-1), 1, 45, 0, 0), (45, .ireturn, 1, 46, 0, 0), (46, .aload_n 0, 1, 47, 0, 0), (47, .getfield 13, 3, 50, 4, 3), (50, .aload_n 0, 1, 51, 0, 0), (51, .iload_n 1, 1, 52, 0, 0), (52, .invokevirtual 68, 3, 55, 0, 0), (55, .iaload, 1, 56, 0, 0), (56, .istore 4, 2, 58, 0, 0), (58, .iconst 1, 1, 59, 0, 0), (59, .istore 5, 2, 61, 0, 0), (61, .iconst 1, 1, 62, 0, 0), (62, .istore 6, 2, 64, 0, 0), (64, .iload 6, 2, 66, 0, 0), (66, .iload 6, 2, 68, 0, 0), (68, .imul, 1, 69, 0, 0), (69, .iload 4, 2, 71, 0, 0), (71, .if_icmp .gt 26, 3, 74, 97, 0), (74, .iload 4, 2, 76, 0, 0), (76, .iload 6, 2, 78, 0, 0), (78, .irem, 1, 79, 0, 0), (79, .ifCond .ne 8, 3, 82, 87, 0), (82, .iload 6, 2, 84, 0, 0), (84, .goto 5, 3, 87, 89, 0), (87, .iload 5, 2, 89, 0, 0), (89, .istore 5, 2, 91, 0, 0), (91, .iinc 6 1, 3, 94, 0, 0), (94, .goto (-30), 3, 97, 64, 0), (97, .iload_n 2, 1, 98, 0, 0), (98, .iload 5, 2, 100, 0, 0), (100, .idiv, 1, 101, 0, 0), (101, .istore 6, 2, 103, 0, 0), (103, .iload_n 3, 1, 104, 0, 0), (104, .iconst 1, 1, 105, 0, 0), (105, .if_icmp .ne 8, 3, 108, 113, 0), (108, .iload 6, 2, 110, 0, 0), (110, .goto 26, 3, 113, 136, 0), (113, .iload 6, 2, 115, 0, 0), (115, .iconst 2, 1, 116, 0, 0), (116, .irem, 1, 117, 0, 0), (117, .ifCond .ne 10, 3, 120, 127, 0), (120, .iload_n 2, 1, 121, 0, 0), (121, .iload 5, 2, 123, 0, 0), (123, .irem, 1, 124, 0, 0), (124, .goto 12, 3, 127, 136, 0), (127, .iload 5, 2, 129, 0, 0), (129, .iconst 1, 1, 130, 0, 0), (130, .isub, 1, 131, 0, 0), (131, .iload_n 2, 1, 132, 0, 0), (132, .iload 5, 2, 134, 0, 0), (134, .irem, 1, 135, 0, 0), (135, .isub, 1, 136, 0, 0), (136, .ireturn, 1, 137, 0, 0)]
def M_R_line : Md := (⟨"SearchGridsModel", "line", "(III)I"⟩, prog_6_method_41_code, 7, some .int, T_R_line)
theorem ok_R_line : md_ok M_R_line := ⟨by decide +kernel, List.forall_mem_cons.mpr ⟨trivial, List.forall_mem_cons.mpr ⟨trivial, List.forall_mem_cons.mpr ⟨trivial, List.forall_mem_cons.mpr ⟨trivial, List.forall_mem_cons.mpr ⟨trivial, List.forall_mem_cons.mpr ⟨trivial, List.forall_mem_cons.mpr ⟨trivial, List.forall_mem_cons.mpr ⟨trivial, List.forall_mem_cons.mpr ⟨trivial, List.forall_mem_cons.mpr ⟨trivial, List.forall_mem_cons.mpr ⟨trivial, List.forall_mem_cons.mpr ⟨trivial, List.forall_mem_cons.mpr ⟨trivial, List.forall_mem_cons.mpr ⟨trivial, List.forall_mem_cons.mpr ⟨trivial, List.forall_mem_cons.mpr ⟨trivial, List.forall_mem_cons.mpr ⟨trivial, List.forall_mem_cons.mpr ⟨trivial, List.forall_mem_cons.mpr ⟨fl_R_13, List.forall_mem_cons.mpr ⟨trivial, List.forall_mem_cons.mpr ⟨trivial, List.forall_mem_cons.mpr ⟨trivial, List.forall_mem_cons.mpr ⟨trivial, List.forall_mem_cons.mpr ⟨trivial, List.forall_mem_cons.mpr ⟨trivial, List.forall_mem_cons.mpr ⟨trivial, List.forall_mem_cons.mpr ⟨trivial, List.forall_mem_cons.mpr ⟨fl_R_13, List.forall_mem_cons.mpr ⟨trivial, List.forall_mem_cons.mpr ⟨trivial, List.forall_mem_cons.mpr ⟨trivial, List.forall_mem_cons.mpr ⟨trivial, List.forall_mem_cons.mpr ⟨trivial, List.forall_mem_cons.mpr ⟨trivial, List.forall_mem_cons.mpr ⟨trivial, List.forall_mem_cons.mpr ⟨trivial, List.forall_mem_cons.mpr ⟨trivial, List.forall_mem_cons.mpr ⟨trivial, List.forall_mem_cons.mpr ⟨trivial, List.forall_mem_cons.mpr ⟨trivial, List.forall_mem_cons.mpr ⟨trivial, List.forall_mem_cons.mpr ⟨trivial, List.forall_mem_cons.mpr ⟨trivial, List.forall_mem_cons.mpr ⟨trivial, List.forall_mem_cons.mpr ⟨trivial, List.forall_mem_cons.mpr ⟨trivial, List.forall_mem_cons.mpr ⟨trivial, List.forall_mem_cons.mpr ⟨trivial, List.forall_mem_cons.mpr ⟨trivial, List.forall_mem_cons.mpr ⟨trivial, List.forall_mem_cons.mpr ⟨trivial, List.forall_mem_cons.mpr ⟨trivial, List.forall_mem_cons.mpr ⟨trivial, List.forall_mem_cons.mpr ⟨trivial, List.forall_mem_cons.mpr ⟨trivial, List.forall_mem_cons.mpr ⟨trivial, List.forall_mem_cons.mpr ⟨trivial, List.forall_mem_cons.mpr ⟨trivial, List.forall_mem_cons.mpr ⟨trivial, List.forall_mem_cons.mpr ⟨trivial, List.forall_mem_cons.mpr ⟨trivial, List.forall_mem_cons.mpr ⟨trivial, List.forall_mem_cons.mpr ⟨trivial, List.forall_mem_cons.mpr ⟨trivial, List.forall_mem_cons.mpr ⟨trivial, List.forall_mem_cons.mpr ⟨trivial, List.forall_mem_cons.mpr ⟨trivial, List.forall_mem_cons.mpr ⟨trivial, List.forall_mem_cons.mpr ⟨trivial, List.forall_mem_cons.mpr ⟨trivial, List.forall_mem_cons.mpr ⟨trivial, List.forall_mem_cons.mpr ⟨trivial, List.forall_mem_cons.mpr ⟨trivial, List.forall_mem_cons.mpr ⟨trivial, List.forall_mem_cons.mpr ⟨trivial, List.forall_mem_cons.mpr ⟨trivial, List.forall_mem_cons.mpr ⟨trivial, fun _ h => absurd h List.not_mem_nil⟩⟩⟩⟩⟩⟩⟩⟩⟩⟩⟩⟩⟩⟩⟩⟩⟩⟩⟩⟩⟩⟩⟩⟩⟩⟩⟩⟩⟩⟩⟩⟩⟩⟩⟩⟩⟩⟩⟩⟩⟩⟩⟩⟩⟩⟩⟩⟩⟩⟩⟩⟩⟩⟩⟩⟩⟩⟩⟩⟩⟩⟩⟩⟩⟩⟩⟩⟩⟩⟩⟩⟩⟩⟩⟩⟩⟩⟩
theorem cw_R_line : cl_V M_R_line 3 := ⟨⟨wd_606, wd_5, ⟨by decide, by decide⟩, by decide +kernel⟩, wd_604, wd_605⟩
def T_R_covers : List En := [(0, .aload_n 0, 1, 1, 0, 0), (1, .iload_n 1, 1, 2, 0, 0), (2, .invokevirtual 80, 3, 5, 0, 0), (5, .ifCond .eq 16, 3, 8, 21, 0), (8, .aload_n 0, 1, 9, 0, 0), (9, .iload_n 1, 1, 10, 0, 0), (10, .invokevirtual 68, 3, 13, 0, 0), (13, .iconst (-1), 1, 14, 0, 0), (14, .if_icmp .eq 7, 3, 17, 21, 0), (17, .iconst 1, 1, 18, 0, 0), (18, .goto 4, 3, 21, 22, 0), (21, .iconst 0, 1, 22, 0, 0), (22, .ireturn, 1, 23, 0, 0)]
def M_R_covers : Md := (⟨"SearchGridsModel", "covers", "(I)Z"⟩, prog_6_method_42_code, 2, some .boolean, T_R_covers)
theorem ok_R_covers : md_ok M_R_covers := ⟨by decide +kernel, List.forall_mem_cons.mpr ⟨trivial, List.forall_mem_cons.mpr ⟨trivial, List.forall_mem_cons.mpr ⟨trivial, List.forall_mem_cons.mpr ⟨trivial, List.forall_mem_cons.mpr ⟨trivial, List.forall_mem_cons.mpr ⟨trivial, List.forall_mem_cons.mpr ⟨trivial, List.forall_mem_cons.mpr ⟨trivial, List.forall_mem_cons.mpr ⟨trivial, List.forall_mem_cons.mpr ⟨trivial, List.forall_mem_cons.mpr ⟨trivial, List.forall_mem_cons.mpr ⟨trivial, List.forall_mem_cons.mpr ⟨trivial, fun _ h => absurd h List.not_mem_nil⟩⟩⟩⟩⟩⟩⟩⟩⟩⟩⟩⟩⟩⟩
theorem cw_R_covers : cl_V M_R_covers 1 := ⟨⟨wd_610, wd_5, ⟨by decide, by decide⟩, by decide +kernel⟩, wd_608, wd_609⟩
def T_C_init : List En := [(0, .aload_n 0, 1, 1, 0, 0), (1, .invokespecial 3, 3, 4, 0, 0), (4, .aload_n 0, 1, 5, 0, 0), (5, .iconst 4, 1, 6, 0, 0), (6, .newarray .int, 2, 8, 0, 0), (8, .putfield 9, 3, 11, 0, 0), (11, .aload_n 0, 1, 12, 0, 0), (12, .iconst 4, 1, 13, 0, 0), (13, .newarray .int, 2, 15, 0, 0), (15, .putfield 15, 3, 18, 0, 1), (18, .aload_n 0, 1, 19, 0, 0), (19, .iconst 4, 1, 20, 0, 0), (20, .newarray .int, 2, 22, 0, 0), (22, .putfield 18, 3, 25, 0, 2), (25, .aload_n 0, 1, 26, 0, 0), (26, .iconst 4, 1, 27, 0, 0), (27, .newarray .int, 2, 29, 0, 0), (29, .putfield 21, 3, 32, 0, 3), (32, .aload_n 0, 1, 33, 0, 0), (33, .iconst 4, 1, 34, 0, 0), (34, .newarray .long, 2, 36, 0, 0), (36, .putfield 24, 3, 39, 0, 4), (39, .aload_n 0, 1, 40, 0, 0), (40, .iconst (-1), 1, 41, 0, 0), (41, .putfield 28, 3, 44, 0, 5), (44, .aload_n 0, 1, 45, 0, 0), (45, .bipush 60, 2, 47, 0, 0), (47, .putfield 32, 3, 50, 0, 6), (50, .aload_n 0, 1, 51, 0, 0), (51, .bipush 12, 2, 53, 0, 0), (53, .putfield 35, 3, 56, 0, 7), (56, .return_, 1, 57, 0, 0)]
def M_C_init : Md := (⟨"SearchGrids$Cell", "<init>", "()V"⟩, prog_2_method_1_code, 1, none, T_C_init)
theorem ok_C_init : md_ok M_C_init := ⟨by decide +kernel, List.forall_mem_cons.mpr ⟨trivial, List.forall_mem_cons.mpr ⟨trivial, List.forall_mem_cons.mpr ⟨trivial, List.forall_mem_cons.mpr ⟨trivial, List.forall_mem_cons.mpr ⟨trivial, List.forall_mem_cons.mpr ⟨fl_C_9, List.forall_mem_cons.mpr ⟨trivial, List.forall_mem_cons.mpr ⟨trivial, List.forall_mem_cons.mpr ⟨trivial, List.forall_mem_cons.mpr ⟨fl_C_15, List.forall_mem_cons.mpr ⟨trivial, List.forall_mem_cons.mpr ⟨trivial, List.forall_mem_cons.mpr ⟨trivial, List.forall_mem_cons.mpr ⟨fl_C_18, List.forall_mem_cons.mpr ⟨trivial, List.forall_mem_cons.mpr ⟨trivial, List.forall_mem_cons.mpr ⟨trivial, List.forall_mem_cons.mpr ⟨fl_C_21, List.forall_mem_cons.mpr ⟨trivial, List.forall_mem_cons.mpr ⟨trivial, List.forall_mem_cons.mpr ⟨trivial, List.forall_mem_cons.mpr ⟨fl_C_24, List.forall_mem_cons.mpr ⟨trivial, List.forall_mem_cons.mpr ⟨trivial, List.forall_mem_cons.mpr ⟨fl_C_28, List.forall_mem_cons.mpr ⟨trivial, List.forall_mem_cons.mpr ⟨trivial, List.forall_mem_cons.mpr ⟨fl_C_32, List.forall_mem_cons.mpr ⟨trivial, List.forall_mem_cons.mpr ⟨trivial, List.forall_mem_cons.mpr ⟨fl_C_35, List.forall_mem_cons.mpr ⟨trivial, fun _ h => absurd h List.not_mem_nil⟩⟩⟩⟩⟩⟩⟩⟩⟩⟩⟩⟩⟩⟩⟩⟩⟩⟩⟩⟩⟩⟩⟩⟩⟩⟩⟩⟩⟩⟩⟩⟩⟩
theorem cw_C_init : cl_I M_C_init 0 := ⟨⟨wd_21, wd_2, ⟨by decide, by decide⟩, by decide +kernel⟩, wd_20, rfl, rfl⟩
def T_C_weight : List En := [(0, .lconst 0, 1, 1, 0, 0), (1, .lstore_n 1, 1, 2, 0, 0), (2, .iconst 0, 1, 3, 0, 0), (3, .istore_n 3, 1, 4, 0, 0), (4, .iload_n 3, 1, 5, 0, 0), (5, .iconst 4, 1, 6, 0, 0), (6, .if_icmp .ge 19, 3, 9, 25, 0), (9, .lload_n 1, 1, 10, 0, 0), (10, .aload_n 0, 1, 11, 0, 0), (11, .getfield 9, 3, 14, 0, 0), (14, .iload_n 3, 1, 15, 0, 0), (15, .iaload, 1, 16, 0, 0), (16, .i2l, 1, 17, 0, 0), (17, .ladd, 1, 18, 0, 0), (18, .lstore_n 1, 1, 19, 0, 0), (19, .iinc 3 1, 3, 22, 0, 0), (22, .goto (-18), 3, 25, 4, 0), (25, .lload_n 1, 1, 26, 0, 0), (26, .lreturn, 1, 27, 0, 0)]
def M_C_weight : Md := (⟨"SearchGrids$Cell", "weight", "()J"⟩, prog_2_method_2_code, 4, some .long, T_C_weight)
theorem ok_C_weight : md_ok M_C_weight := ⟨by decide +kernel, List.forall_mem_cons.mpr ⟨trivial, List.forall_mem_cons.mpr ⟨trivial, List.forall_mem_cons.mpr ⟨trivial, List.forall_mem_cons.mpr ⟨trivial, List.forall_mem_cons.mpr ⟨trivial, List.forall_mem_cons.mpr ⟨trivial, List.forall_mem_cons.mpr ⟨trivial, List.forall_mem_cons.mpr ⟨trivial, List.forall_mem_cons.mpr ⟨trivial, List.forall_mem_cons.mpr ⟨fl_C_9, List.forall_mem_cons.mpr ⟨trivial, List.forall_mem_cons.mpr ⟨trivial, List.forall_mem_cons.mpr ⟨trivial, List.forall_mem_cons.mpr ⟨trivial, List.forall_mem_cons.mpr ⟨trivial, List.forall_mem_cons.mpr ⟨trivial, List.forall_mem_cons.mpr ⟨trivial, List.forall_mem_cons.mpr ⟨trivial, List.forall_mem_cons.mpr ⟨trivial, fun _ h => absurd h List.not_mem_nil⟩⟩⟩⟩⟩⟩⟩⟩⟩⟩⟩⟩⟩⟩⟩⟩⟩⟩⟩⟩
theorem cw_C_weight : cl_V M_C_weight 0 := ⟨⟨wd_240, wd_2, ⟨by decide, by decide⟩, by decide +kernel⟩, wd_239, sl_10⟩
def T_C_missedBy : List En := [(0, .aload_n 0, 1, 1, 0, 0), (1, .getfield 32, 3, 4, 0, 6), (4, .iload_n 2, 1, 5, 0, 0), (5, .iload_n 1, 1, 6, 0, 0), (6, .imul, 1, 7, 0, 0), (7, .invokestatic 38, 3, 10, 0, 0), (10, .istore_n 3, 1, 11, 0, 0), (11, .aload_n 0, 1, 12, 0, 0), (12, .getfield 32, 3, 15, 0, 6), (15, .iload_n 3, 1, 16, 0, 0), (16, .isub, 1, 17, 0, 0), (17, .i2l, 1, 18, 0, 0), (18, .aload_n 0, 1, 19, 0, 0), (19, .getfield 35, 3, 22, 0, 7), (22, .i2l, 1, 23, 0, 0), (23, .lmul, 1, 24, 0, 0), (24, .lreturn, 1, 25, 0, 0)]
def M_C_missedBy : Md := (⟨"SearchGrids$Cell", "missedBy", "(II)J"⟩, prog_2_method_3_code, 4, some .long, T_C_missedBy)
theorem ok_C_missedBy : md_ok M_C_missedBy := ⟨by decide +kernel, List.forall_mem_cons.mpr ⟨trivial, List.forall_mem_cons.mpr ⟨fl_C_32, List.forall_mem_cons.mpr ⟨trivial, List.forall_mem_cons.mpr ⟨trivial, List.forall_mem_cons.mpr ⟨trivial, List.forall_mem_cons.mpr ⟨trivial, List.forall_mem_cons.mpr ⟨trivial, List.forall_mem_cons.mpr ⟨trivial, List.forall_mem_cons.mpr ⟨fl_C_32, List.forall_mem_cons.mpr ⟨trivial, List.forall_mem_cons.mpr ⟨trivial, List.forall_mem_cons.mpr ⟨trivial, List.forall_mem_cons.mpr ⟨trivial, List.forall_mem_cons.mpr ⟨fl_C_35, List.forall_mem_cons.mpr ⟨trivial, List.forall_mem_cons.mpr ⟨trivial, List.forall_mem_cons.mpr ⟨trivial, fun _ h => absurd h List.not_mem_nil⟩⟩⟩⟩⟩⟩⟩⟩⟩⟩⟩⟩⟩⟩⟩⟩⟩⟩
theorem cw_C_missedBy : cl_V M_C_missedBy 2 := ⟨⟨wd_249, wd_2, ⟨by decide, by decide⟩, by decide +kernel⟩, wd_248, sl_12⟩
def T_C_missed : List En := [(0, .lconst 1, 1, 1, 0, 0), (1, .lstore_n 3, 1, 2, 0, 0), (2, .iconst 0, 1, 3, 0, 0), (3, .istore 5, 2, 5, 0, 0), (5, .iload 5, 2, 7, 0, 0), (7, .iconst 4, 1, 8, 0, 0), (8, .if_icmp .ge 24, 3, 11, 32, 0), (11, .lload_n 3, 1, 12, 0, 0), (12, .aload_n 0, 1, 13, 0, 0), (13, .aload_n 2, 1, 14, 0, 0), (14, .iload 5, 2, 16, 0, 0), (16, .iaload, 1, 17, 0, 0), (17, .aload_n 1, 1, 18, 0, 0), (18, .iload 5, 2, 20, 0, 0), (20, .iaload, 1, 21, 0, 0), (21, .invokevirtual 44, 3, 24, 0, 0), (24, .lmul, 1, 25, 0, 0), (25, .lstore_n 3, 1, 26, 0, 0), (26, .iinc 5 1, 3, 29, 0, 0), (29, .goto (-24), 3, 32, 5, 0), (32, .lload_n 3, 1, 33, 0, 0), (33, .lreturn, 1, 34, 0, 0)]
def M_C_missed : Md := (⟨"SearchGrids$Cell", "missed", "([I[I)J"⟩, prog_2_method_4_code, 6, some .long, T_C_missed)
theorem ok_C_missed : md_ok M_C_missed := ⟨by decide +kernel, List.forall_mem_cons.mpr ⟨trivial, List.forall_mem_cons.mpr ⟨trivial, List.forall_mem_cons.mpr ⟨trivial, List.forall_mem_cons.mpr ⟨trivial, List.forall_mem_cons.mpr ⟨trivial, List.forall_mem_cons.mpr ⟨trivial, List.forall_mem_cons.mpr ⟨trivial, List.forall_mem_cons.mpr ⟨trivial, List.forall_mem_cons.mpr ⟨trivial, List.forall_mem_cons.mpr ⟨trivial, List.forall_mem_cons.mpr ⟨trivial, List.forall_mem_cons.mpr ⟨trivial, List.forall_mem_cons.mpr ⟨trivial, List.forall_mem_cons.mpr ⟨trivial, List.forall_mem_cons.mpr ⟨trivial, List.forall_mem_cons.mpr ⟨trivial, List.forall_mem_cons.mpr ⟨trivial, List.forall_mem_cons.mpr ⟨trivial, List.forall_mem_cons.mpr ⟨trivial, List.forall_mem_cons.mpr ⟨trivial, List.forall_mem_cons.mpr ⟨trivial, List.forall_mem_cons.mpr ⟨trivial, fun _ h => absurd h List.not_mem_nil⟩⟩⟩⟩⟩⟩⟩⟩⟩⟩⟩⟩⟩⟩⟩⟩⟩⟩⟩⟩⟩⟩⟩
theorem cw_C_missed : cl_V M_C_missed 2 := ⟨⟨wd_245, wd_2, ⟨by decide, by decide⟩, by decide +kernel⟩, wd_244, sl_11⟩
def T_C_finds : List En := [(0, .aload_n 0, 1, 1, 0, 0), (1, .invokevirtual 48, 3, 4, 0, 0), (4, .ldc2_w 52, 3, 7, 0, 0), (7, .aload_n 0, 1, 8, 0, 0), (8, .aload_n 1, 1, 9, 0, 0), (9, .aload_n 2, 1, 10, 0, 0), (10, .invokevirtual 54, 3, 13, 0, 0), (13, .lsub, 1, 14, 0, 0), (14, .lmul, 1, 15, 0, 0), (15, .lreturn, 1, 16, 0, 0)]
def M_C_finds : Md := (⟨"SearchGrids$Cell", "finds", "([I[I)J"⟩, prog_2_method_5_code, 3, some .long, T_C_finds)
theorem ok_C_finds : md_ok M_C_finds := ⟨by decide +kernel, List.forall_mem_cons.mpr ⟨trivial, List.forall_mem_cons.mpr ⟨trivial, List.forall_mem_cons.mpr ⟨trivial, List.forall_mem_cons.mpr ⟨trivial, List.forall_mem_cons.mpr ⟨trivial, List.forall_mem_cons.mpr ⟨trivial, List.forall_mem_cons.mpr ⟨trivial, List.forall_mem_cons.mpr ⟨trivial, List.forall_mem_cons.mpr ⟨trivial, List.forall_mem_cons.mpr ⟨trivial, fun _ h => absurd h List.not_mem_nil⟩⟩⟩⟩⟩⟩⟩⟩⟩⟩⟩
theorem cw_C_finds : cl_V M_C_finds 2 := ⟨⟨wd_236, wd_2, ⟨by decide, by decide⟩, by decide +kernel⟩, wd_235, sl_9⟩
def T_C_remains : List En := [(0, .aload_n 0, 1, 1, 0, 0), (1, .getfield 9, 3, 4, 0, 0), (4, .iconst 0, 1, 5, 0, 0), (5, .iaload, 1, 6, 0, 0), (6, .i2l, 1, 7, 0, 0), (7, .aload_n 0, 1, 8, 0, 0), (8, .aload_n 0, 1, 9, 0, 0), (9, .getfield 18, 3, 12, 0, 2), (12, .aload_n 1, 1, 13, 0, 0), (13, .invokevirtual 54, 3, 16, 0, 0), (16, .lmul, 1, 17, 0, 0), (17, .lreturn, 1, 18, 0, 0)]
def M_C_remains : Md := (⟨"SearchGrids$Cell", "remains", "([I)J"⟩, prog_2_method_6_code, 2, some .long, T_C_remains)
theorem ok_C_remains : md_ok M_C_remains := ⟨by decide +kernel, List.forall_mem_cons.mpr ⟨trivial, List.forall_mem_cons.mpr ⟨fl_C_9, List.forall_mem_cons.mpr ⟨trivial, List.forall_mem_cons.mpr ⟨trivial, List.forall_mem_cons.mpr ⟨trivial, List.forall_mem_cons.mpr ⟨trivial, List.forall_mem_cons.mpr ⟨trivial, List.forall_mem_cons.mpr ⟨fl_C_18, List.forall_mem_cons.mpr ⟨trivial, List.forall_mem_cons.mpr ⟨trivial, List.forall_mem_cons.mpr ⟨trivial, List.forall_mem_cons.mpr ⟨trivial, fun _ h => absurd h List.not_mem_nil⟩⟩⟩⟩⟩⟩⟩⟩⟩⟩⟩⟩⟩
theorem cw_C_remains : cl_V M_C_remains 1 := ⟨⟨wd_294, wd_2, ⟨by decide, by decide⟩, by decide +kernel⟩, wd_293, sl_18⟩
def T_C_reckonGains : List En := [(0, .aload_n 0, 1, 1, 0, 0), (1, .aload_n 0, 1, 2, 0, 0), (2, .getfield 15, 3, 5, 0, 1), (5, .aload_n 1, 1, 6, 0, 0), (6, .invokevirtual 58, 3, 9, 0, 0), (9, .lstore_n 2, 1, 10, 0, 0), (10, .iconst 0, 1, 11, 0, 0), (11, .istore 4, 2, 13, 0, 0), (13, .iload 4, 2, 15, 0, 0), (15, .iconst 4, 1, 16, 0, 0), (16, .if_icmp .ge 49, 3, 19, 65, 0), (19, .aload_n 0, 1, 20, 0, 0), (20, .getfield 15, 3, 23, 0, 1), (23, .iload 4, 2, 25, 0, 0), (25, .dup2, 1, 26, 0, 0), (26, .iaload, 1, 27, 0, 0), (27, .iconst 1, 1, 28, 0, 0), (28, .iadd, 1, 29, 0, 0), (29, .iastore, 1, 30, 0, 0), (30, .aload_n 0, 1, 31, 0, 0), (31, .getfield 24, 3, 34, 0, 4), (34, .iload 4, 2, 36, 0, 0), (36, .aload_n 0, 1, 37, 0, 0), (37, .aload_n 0, 1, 38, 0, 0), (38, .getfield 15, 3, 41, 0, 1), (41, .aload_n 1, 1, 42, 0, 0), (42, .invokevirtual 58, 3, 45, 0, 0), (45, .lload_n 2, 1, 46, 0, 0), (46, .lsub, 1, 47, 0, 0), (47, .lastore, 1, 48, 0, 0), (48, .aload_n 0, 1, 49, 0, 0), (49, .getfield 15, 3, 52, 0, 1), (52, .iload 4, 2, 54, 0, 0), (54, .dup2, 1, 55, 0, 0), (55, .iaload, 1, 56, 0, 0), (56, .iconst 1, 1, 57, 0, 0), (57, .isub, 1, 58, 0, 0), (58, .iastore, 1, 59, 0, 0), (59, .iinc 4 1, 3, 62, 0, 0), (62, .goto (-49), 3, 65, 13, 0), (65, .return_, 1, 66, 0, 0)]
def M_C_reckonGains : Md := (⟨"SearchGrids$Cell", "reckonGains", "([I)V"⟩, prog_2_method_7_code, 5, none, T_C_reckonGains)
theorem ok_C_reckonGains : md_ok M_C_reckonGains := ⟨by decide +kernel, List.forall_mem_cons.mpr ⟨trivial, List.forall_mem_cons.mpr ⟨trivial, List.forall_mem_cons.mpr ⟨fl_C_15, List.forall_mem_cons.mpr ⟨trivial, List.forall_mem_cons.mpr ⟨trivial, List.forall_mem_cons.mpr ⟨trivial, List.forall_mem_cons.mpr ⟨trivial, List.forall_mem_cons.mpr ⟨trivial, List.forall_mem_cons.mpr ⟨trivial, List.forall_mem_cons.mpr ⟨trivial, List.forall_mem_cons.mpr ⟨trivial, List.forall_mem_cons.mpr ⟨trivial, List.forall_mem_cons.mpr ⟨fl_C_15, List.forall_mem_cons.mpr ⟨trivial, List.forall_mem_cons.mpr ⟨trivial, List.forall_mem_cons.mpr ⟨trivial, List.forall_mem_cons.mpr ⟨trivial, List.forall_mem_cons.mpr ⟨trivial, List.forall_mem_cons.mpr ⟨trivial, List.forall_mem_cons.mpr ⟨trivial, List.forall_mem_cons.mpr ⟨fl_C_24, List.forall_mem_cons.mpr ⟨trivial, List.forall_mem_cons.mpr ⟨trivial, List.forall_mem_cons.mpr ⟨trivial, List.forall_mem_cons.mpr ⟨fl_C_15, List.forall_mem_cons.mpr ⟨trivial, List.forall_mem_cons.mpr ⟨trivial, List.forall_mem_cons.mpr ⟨trivial, List.forall_mem_cons.mpr ⟨trivial, List.forall_mem_cons.mpr ⟨trivial, List.forall_mem_cons.mpr ⟨trivial, List.forall_mem_cons.mpr ⟨fl_C_15, List.forall_mem_cons.mpr ⟨trivial, List.forall_mem_cons.mpr ⟨trivial, List.forall_mem_cons.mpr ⟨trivial, List.forall_mem_cons.mpr ⟨trivial, List.forall_mem_cons.mpr ⟨trivial, List.forall_mem_cons.mpr ⟨trivial, List.forall_mem_cons.mpr ⟨trivial, List.forall_mem_cons.mpr ⟨trivial, List.forall_mem_cons.mpr ⟨trivial, fun _ h => absurd h List.not_mem_nil⟩⟩⟩⟩⟩⟩⟩⟩⟩⟩⟩⟩⟩⟩⟩⟩⟩⟩⟩⟩⟩⟩⟩⟩⟩⟩⟩⟩⟩⟩⟩⟩⟩⟩⟩⟩⟩⟩⟩⟩⟩⟩
theorem cw_C_reckonGains : cl_V M_C_reckonGains 1 := ⟨⟨wd_232, wd_2, ⟨by decide, by decide⟩, by decide +kernel⟩, wd_231, sl_8⟩
def T_G_init : List En := [(0, .aload_n 0, 1, 1, 0, 0), (1, .invokespecial 3, 3, 4, 0, 0), (4, .aload_n 0, 1, 5, 0, 0), (5, .sipush 200, 3, 8, 0, 0), (8, .newarray .int, 2, 10, 0, 0), (10, .putfield 9, 3, 13, 1, 0), (13, .aload_n 0, 1, 14, 0, 0), (14, .sipush 200, 3, 17, 0, 0), (17, .newarray .int, 2, 19, 0, 0), (19, .putfield 15, 3, 22, 1, 1), (22, .aload_n 0, 1, 23, 0, 0), (23, .sipush 200, 3, 26, 0, 0), (26, .newarray .int, 2, 28, 0, 0), (28, .putfield 18, 3, 31, 1, 2), (31, .aload_n 0, 1, 32, 0, 0), (32, .sipush 200, 3, 35, 0, 0), (35, .newarray .long, 2, 37, 0, 0), (37, .putfield 21, 3, 40, 1, 3), (40, .aload_n 0, 1, 41, 0, 0), (41, .sipush 200, 3, 44, 0, 0), (44, .newarray .int, 2, 46, 0, 0), (46, .putfield 25, 3, 49, 1, 4), (49, .return_, 1, 50, 0, 0)]
def M_G_init : Md := (⟨"SearchGrids$LookLog", "<init>", "()V"⟩, prog_3_method_1_code, 1, none, T_G_init)
theorem ok_G_init : md_ok M_G_init := ⟨by decide +kernel, List.forall_mem_cons.mpr ⟨trivial, List.forall_mem_cons.mpr ⟨trivial, List.forall_mem_cons.mpr ⟨trivial, List.forall_mem_cons.mpr ⟨trivial, List.forall_mem_cons.mpr ⟨trivial, List.forall_mem_cons.mpr ⟨fl_G_9, List.forall_mem_cons.mpr ⟨trivial, List.forall_mem_cons.mpr ⟨trivial, List.forall_mem_cons.mpr ⟨trivial, List.forall_mem_cons.mpr ⟨fl_G_15, List.forall_mem_cons.mpr ⟨trivial, List.forall_mem_cons.mpr ⟨trivial, List.forall_mem_cons.mpr ⟨trivial, List.forall_mem_cons.mpr ⟨fl_G_18, List.forall_mem_cons.mpr ⟨trivial, List.forall_mem_cons.mpr ⟨trivial, List.forall_mem_cons.mpr ⟨trivial, List.forall_mem_cons.mpr ⟨fl_G_21, List.forall_mem_cons.mpr ⟨trivial, List.forall_mem_cons.mpr ⟨trivial, List.forall_mem_cons.mpr ⟨trivial, List.forall_mem_cons.mpr ⟨fl_G_25, List.forall_mem_cons.mpr ⟨trivial, fun _ h => absurd h List.not_mem_nil⟩⟩⟩⟩⟩⟩⟩⟩⟩⟩⟩⟩⟩⟩⟩⟩⟩⟩⟩⟩⟩⟩⟩⟩
theorem cw_G_init : cl_I M_G_init 0 := ⟨⟨wd_90, wd_4, ⟨by decide, by decide⟩, by decide +kernel⟩, wd_89, rfl, rfl⟩
def T_G_add : List En := [(0, .aload_n 0, 1, 1, 0, 0), (1, .getfield 28, 3, 4, 1, 5), (4, .sipush 200, 3, 7, 0, 0), (7, .if_icmp .lt 5, 3, 10, 12, 0), (10, .iconst (-1), 1, 11, 0, 0), (11, .ireturn, 1, 12, 0, 0), (12, .aload_n 0, 1, 13, 0, 0), (13, .getfield 28, 3, 16, 1, 5), (16, .istore 6, 2, 18, 0, 0), (18, .aload_n 0, 1, 19, 0, 0), (19, .getfield 9, 3, 22, 1, 0), (22, .iload 6, 2, 24, 0, 0), (24, .iload_n 1, 1, 25, 0, 0), (25, .iastore, 1, 26, 0, 0), (26, .aload_n 0, 1, 27, 0, 0), (27, .getfield 15, 3, 30, 1, 1), (30, .iload 6, 2, 32, 0, 0), (32, .iload_n 2, 1, 33, 0, 0), (33, .iastore, 1, 34, 0, 0), (34, .aload_n 0, 1, 35, 0, 0), (35, .getfield 18, 3, 38, 1, 2), (38, .iload 6, 2, 40, 0, 0), (40, .iload_n 3, 1, 41, 0, 0), (41, .iastore, 1, 42, 0, 0), (42, .aload_n 0, 1, 43, 0, 0), (43, .getfield 21, 3, 46, 1, 3), (46, .iload 6, 2, 48, 0, 0), (48, .lload 4, 2, 50, 0, 0), (50, .lastore, 1, 51, 0, 0), (51, .iload 6, 2, 53, 0, 0), (53, .istore 7, 2, 55, 0, 0), (55, .iload 7, 2, 57, 0, 0), (57, .ifCond .le 45, 3, 60, 102, 0), (60, .aload_n 0, 1, 61, 0, 0), (61, .getfield 21, 3, 64, 1, 3), (64, .aload_n 0, 1, 65, 0, 0), (65, .getfield 25, 3, 68, 1, 4), (68, .iload 7, 2, 70, 0, 0), (70, .iconst 1, 1, 71, 0, 0), (71, .isub, 1, 72, 0, 0), (72, .iaload, 1, 73, 0, 0), (73, .laload, 1, 74, 0, 0), (74, .lload 4, 2, 76, 0, 0), (76, .lcmp, 1, 77, 0, 0), (77, .ifCond .le 25, 3, 80, 102, 0), (80, .aload_n 0, 1, 81, 0, 0), (81, .getfield 25, 3, 84, 1, 4), (84, .iload 7, 2, 86, 0, 0), (86, .aload_n 0, 1, 87, 0, 0), (87, .getfield 25, 3, 90, 1, 4), (90, .iload 7, 2, 92, 0, 0), (92, .iconst 1, 1, 93, 0, 0), (93, .isub, 1, 94, 0, 0), (94, .iaload, 1, 95, 0, 0), (95, .iastore, 1, 96, 0, 0), (96, .iinc 7 (-1), 3, 99, 0, 0), (99, .goto (-44), 3, 102, 55, 0), (102, .aload_n 0, 1, 103, 0, 0), (103, .getfield 25, 3, 106, 1, 4), (106, .iload 7, 2, 108, 0, 0), (108, .iload 6, 2, 110, 0, 0), (110, .iastore, 1, 111, 0, 0), (111, .aload_n 0, 1, 112, 0, 0), (112, .dup, 1, 113, 0, 0), (113, .getfield 28, 3, 116, 1, 5), (116, .iconst 1, 1, 117, 0, 0), (117, .iadd, 1, 118, 0, 0), (118, .putfield 28, 3, 121, 1, 5), (121, .iload 6, 2, 123, 0, 0), (123, .ireturn, 1, 124, 0, 0)]
def M_G_add : Md := (⟨"SearchGrids$LookLog", "add", "(IIIJ)I"⟩, prog_3_method_2_code, 8, some .int, T_G_add)
theorem ok_G_add : md_ok M_G_add := ⟨by decide +kernel, List.forall_mem_cons.mpr ⟨trivial, List.forall_mem_cons.mpr ⟨fl_G_28, List.forall_mem_cons.mpr ⟨trivial, List.forall_mem_cons.mpr ⟨trivial, List.forall_mem_cons.mpr ⟨trivial, List.forall_mem_cons.mpr ⟨trivial, List.forall_mem_cons.mpr ⟨trivial, List.forall_mem_cons.mpr ⟨fl_G_28, List.forall_mem_cons.mpr ⟨trivial, List.forall_mem_cons.mpr ⟨trivial, List.forall_mem_cons.mpr ⟨fl_G_9, List.forall_mem_cons.mpr ⟨trivial, List.forall_mem_cons.mpr ⟨trivial, List.forall_mem_cons.mpr ⟨trivial, List.forall_mem_cons.mpr ⟨trivial, List.forall_mem_cons.mpr ⟨fl_G_15, List.forall_mem_cons.mpr ⟨trivial, List.forall_mem_cons.mpr ⟨trivial, List.forall_mem_cons.mpr ⟨trivial, List.forall_mem_cons.mpr ⟨trivial, List.forall_mem_cons.mpr ⟨fl_G_18, List.forall_mem_cons.mpr ⟨trivial, List.forall_mem_cons.mpr ⟨trivial, List.forall_mem_cons.mpr ⟨trivial, List.forall_mem_cons.mpr ⟨trivial, List.forall_mem_cons.mpr ⟨fl_G_21, List.forall_mem_cons.mpr ⟨trivial, List.forall_mem_cons.mpr ⟨trivial, List.forall_mem_cons.mpr ⟨trivial, List.forall_mem_cons.mpr ⟨trivial, List.forall_mem_cons.mpr ⟨trivial, List.forall_mem_cons.mpr ⟨trivial, List.forall_mem_cons.mpr ⟨trivial, List.forall_mem_cons.mpr ⟨trivial, List.forall_mem_cons.mpr ⟨fl_G_21, List.forall_mem_cons.mpr ⟨trivial, List.forall_mem_cons.mpr ⟨fl_G_25, List.forall_mem_cons.mpr ⟨trivial, List.forall_mem_cons.mpr ⟨trivial, List.forall_mem_cons.mpr ⟨trivial, List.forall_mem_cons.mpr ⟨trivial, List.forall_mem_cons.mpr ⟨trivial, List.forall_mem_cons.mpr ⟨trivial, List.forall_mem_cons.mpr ⟨trivial, List.forall_mem_cons.mpr ⟨trivial, List.forall_mem_cons.mpr ⟨trivial, List.forall_mem_cons.mpr ⟨fl_G_25, List.forall_mem_cons.mpr ⟨trivial, List.forall_mem_cons.mpr ⟨trivial, List.forall_mem_cons.mpr ⟨fl_G_25, List.forall_mem_cons.mpr ⟨trivial, List.forall_mem_cons.mpr ⟨trivial, List.forall_mem_cons.mpr ⟨trivial, List.forall_mem_cons.mpr ⟨trivial, List.forall_mem_cons.mpr ⟨trivial, List.forall_mem_cons.mpr ⟨trivial, List.forall_mem_cons.mpr ⟨trivial, List.forall_mem_cons.mpr ⟨trivial, List.forall_mem_cons.mpr ⟨fl_G_25, List.forall_mem_cons.mpr ⟨trivial, List.forall_mem_cons.mpr ⟨trivial, List.forall_mem_cons.mpr ⟨trivial, List.forall_mem_cons.mpr ⟨trivial, List.forall_mem_cons.mpr ⟨trivial, List.forall_mem_cons.mpr ⟨fl_G_28, List.forall_mem_cons.mpr ⟨trivial, List.forall_mem_cons.mpr ⟨trivial, List.forall_mem_cons.mpr ⟨fl_G_28, List.forall_mem_cons.mpr ⟨trivial, List.forall_mem_cons.mpr ⟨trivial, fun _ h => absurd h List.not_mem_nil⟩⟩⟩⟩⟩⟩⟩⟩⟩⟩⟩⟩⟩⟩⟩⟩⟩⟩⟩⟩⟩⟩⟩⟩⟩⟩⟩⟩⟩⟩⟩⟩⟩⟩⟩⟩⟩⟩⟩⟩⟩⟩⟩⟩⟩⟩⟩⟩⟩⟩⟩⟩⟩⟩⟩⟩⟩⟩⟩⟩⟩⟩⟩⟩⟩⟩⟩⟩⟩⟩⟩
theorem cw_G_add : cl_V M_G_add 4 := ⟨⟨wd_286, wd_4, ⟨by decide, by decide⟩, by decide +kernel⟩, wd_285, sl_17⟩
def T_L_init : List En := [(0, .aload_n 0, 1, 1, 0, 0), (1, .invokespecial 3, 3, 4, 0, 0), (4, .aload_n 0, 1, 5, 0, 0), (5, .bipush 24, 2, 7, 0, 0), (7, .newarray .boolean, 2, 9, 0, 0), (9, .putfield 9, 3, 12, 2, 0), (12, .return_, 1, 13, 0, 0)]
def M_L_init : Md := (⟨"SearchGrids$Looker", "<init>", "()V"⟩, prog_4_method_1_code, 1, none, T_L_init)
theorem ok_L_init : md_ok M_L_init := ⟨by decide +kernel, List.forall_mem_cons.mpr ⟨trivial, List.forall_mem_cons.mpr ⟨trivial, List.forall_mem_cons.mpr ⟨trivial, List.forall_mem_cons.mpr ⟨trivial, List.forall_mem_cons.mpr ⟨trivial, List.forall_mem_cons.mpr ⟨fl_L_9, List.forall_mem_cons.mpr ⟨trivial, fun _ h => absurd h List.not_mem_nil⟩⟩⟩⟩⟩⟩⟩⟩
theorem cw_L_init : cl_I M_L_init 0 := ⟨⟨wd_66, wd_3, ⟨by decide, by decide⟩, by decide +kernel⟩, wd_65, rfl, rfl⟩
def T_L_begin : List En := [(0, .aload_n 0, 1, 1, 0, 0), (1, .iload_n 1, 1, 2, 0, 0), (2, .putfield 15, 3, 5, 2, 1), (5, .aload_n 0, 1, 6, 0, 0), (6, .iload_n 1, 1, 7, 0, 0), (7, .putfield 19, 3, 10, 2, 2), (10, .return_, 1, 11, 0, 0)]
def M_L_begin : Md := (⟨"SearchGrids$Looker", "begin", "(I)V"⟩, prog_4_method_2_code, 2, none, T_L_begin)
theorem ok_L_begin : md_ok M_L_begin := ⟨by decide +kernel, List.forall_mem_cons.mpr ⟨trivial, List.forall_mem_cons.mpr ⟨trivial, List.forall_mem_cons.mpr ⟨fl_L_15, List.forall_mem_cons.mpr ⟨trivial, List.forall_mem_cons.mpr ⟨trivial, List.forall_mem_cons.mpr ⟨fl_L_19, List.forall_mem_cons.mpr ⟨trivial, fun _ h => absurd h List.not_mem_nil⟩⟩⟩⟩⟩⟩⟩⟩
theorem cw_L_begin : cl_V M_L_begin 1 := ⟨⟨wd_207, wd_3, ⟨by decide, by decide⟩, by decide +kernel⟩, wd_206, sl_5⟩
def T_L_takeAway : List En := [(0, .iload_n 1, 1, 1, 0, 0), (1, .iconst 0, 1, 2, 0, 0), (2, .invokestatic 22, 3, 5, 0, 0), (5, .istore_n 3, 1, 6, 0, 0), (6, .iload_n 3, 1, 7, 0, 0), (7, .iload_n 2, 1, 8, 0, 0), (8, .if_icmp .ge 49, 3, 11, 57, 0), (11, .iload_n 3, 1, 12, 0, 0), (12, .bipush 24, 2, 14, 0, 0), (14, .if_icmp .ge 43, 3, 17, 57, 0), (17, .aload_n 0, 1, 18, 0, 0), (18, .getfield 9, 3, 21, 2, 0), (21, .iload_n 3, 1, 22, 0, 0), (22, .baload, 1, 23, 0, 0), (23, .ifCond .ne 21, 3, 26, 44, 0), (26, .iload_n 3, 1, 27, 0, 0), (27, .aload_n 0, 1, 28, 0, 0), (28, .getfield 15, 3, 31, 2, 1), (31, .if_icmp .ge 13, 3, 34, 44, 0), (34, .aload_n 0, 1, 35, 0, 0), (35, .dup, 1, 36, 0, 0), (36, .getfield 19, 3, 39, 2, 2), (39, .iconst 1, 1, 40, 0, 0), (40, .isub, 1, 41, 0, 0), (41, .putfield 19, 3, 44, 2, 2), (44, .aload_n 0, 1, 45, 0, 0), (45, .getfield 9, 3, 48, 2, 0), (48, .iload_n 3, 1, 49, 0, 0), (49, .iconst 1, 1, 50, 0, 0), (50, .bastore, 1, 51, 0, 0), (51, .iinc 3 1, 3, 54, 0, 0), (54, .goto (-48), 3, 57, 6, 0), (57, .return_, 1, 58, 0, 0)]
def M_L_takeAway : Md := (⟨"SearchGrids$Looker", "takeAway", "(II)V"⟩, prog_4_method_3_code, 4, none, T_L_takeAway)
theorem ok_L_takeAway : md_ok M_L_takeAway := ⟨by decide +kernel, List.forall_mem_cons.mpr ⟨trivial, List.forall_mem_cons.mpr ⟨trivial, List.forall_mem_cons.mpr ⟨trivial, List.forall_mem_cons.mpr ⟨trivial, List.forall_mem_cons.mpr ⟨trivial, List.forall_mem_cons.mpr ⟨trivial, List.forall_mem_cons.mpr ⟨trivial, List.forall_mem_cons.mpr ⟨trivial, List.forall_mem_cons.mpr ⟨trivial, List.forall_mem_cons.mpr ⟨trivial, List.forall_mem_cons.mpr ⟨trivial, List.forall_mem_cons.mpr ⟨fl_L_9, List.forall_mem_cons.mpr ⟨trivial, List.forall_mem_cons.mpr ⟨trivial, List.forall_mem_cons.mpr ⟨trivial, List.forall_mem_cons.mpr ⟨trivial, List.forall_mem_cons.mpr ⟨trivial, List.forall_mem_cons.mpr ⟨fl_L_15, List.forall_mem_cons.mpr ⟨trivial, List.forall_mem_cons.mpr ⟨trivial, List.forall_mem_cons.mpr ⟨trivial, List.forall_mem_cons.mpr ⟨fl_L_19, List.forall_mem_cons.mpr ⟨trivial, List.forall_mem_cons.mpr ⟨trivial, List.forall_mem_cons.mpr ⟨fl_L_19, List.forall_mem_cons.mpr ⟨trivial, List.forall_mem_cons.mpr ⟨fl_L_9, List.forall_mem_cons.mpr ⟨trivial, List.forall_mem_cons.mpr ⟨trivial, List.forall_mem_cons.mpr ⟨trivial, List.forall_mem_cons.mpr ⟨trivial, List.forall_mem_cons.mpr ⟨trivial, List.forall_mem_cons.mpr ⟨trivial, fun _ h => absurd h List.not_mem_nil⟩⟩⟩⟩⟩⟩⟩⟩⟩⟩⟩⟩⟩⟩⟩⟩⟩⟩⟩⟩⟩⟩⟩⟩⟩⟩⟩⟩⟩⟩⟩⟩⟩⟩
theorem cw_L_takeAway : cl_V M_L_takeAway 2 := ⟨⟨wd_220, wd_3, ⟨by decide, by decide⟩, by decide +kernel⟩, wd_219, sl_7⟩
def T_W_cell : List En := [(0, .iload_n 1, 1, 1, 0, 0), (1, .aload_n 0, 1, 2, 0, 0), (2, .arraylength, 1, 3, 0, 0), (3, .if_icmp .ge 9, 3, 6, 12, 0), (6, .aload_n 0, 1, 7, 0, 0), (7, .iload_n 1, 1, 8, 0, 0), (8, .iaload, 1, 9, 0, 0), (9, .goto 4, 3, 12, 13, 0), (12, .iconst 0, 1, 13, 0, 0), (13, .ireturn, 1, 14, 0, 0)]
def M_W_cell : Md := (⟨"SearchGridsLaw", "cell", "([II)I"⟩, method_2_code, 2, some .int, T_W_cell)
theorem ok_W_cell : md_ok M_W_cell := ⟨by decide +kernel, List.forall_mem_cons.mpr ⟨trivial, List.forall_mem_cons.mpr ⟨trivial, List.forall_mem_cons.mpr ⟨trivial, List.forall_mem_cons.mpr ⟨trivial, List.forall_mem_cons.mpr ⟨trivial, List.forall_mem_cons.mpr ⟨trivial, List.forall_mem_cons.mpr ⟨trivial, List.forall_mem_cons.mpr ⟨trivial, List.forall_mem_cons.mpr ⟨trivial, List.forall_mem_cons.mpr ⟨trivial, fun _ h => absurd h List.not_mem_nil⟩⟩⟩⟩⟩⟩⟩⟩⟩⟩⟩
theorem cw_W_cell : cl_S M_W_cell 2 := ⟨⟨wd_370, wd_0, ⟨by decide, by decide⟩, by decide +kernel⟩, wd_369⟩
end
section
/-! a method that makes no cell: depth d, answer Q -/
abbrev Om (g : Gx) (M : Md) (d : Nat) (Q : Option Value → Hp → Prop) (h : Hp) (pc : Nat) (L : List (Option Value)) (st : List Value) : Prop := Ok g M (rmd d 0 0) (Zm g 0 0 Q) 0 0 h pc L st
section MORE
variable {g : Gx} {M M1 : Md} {R : Room} {Z : Zx} {kc ks d : Nat} {Q : Option Value → Hp → Prop} {h : Hp} {pc : Nat} {L : List (Option Value)} {st : List Value} {n x0 y0 : Nat}
theorem k_ist0 {a0 : Option Value} {r : List (Option Value)} {x : Int32} (hf : md_f M pc = some (.istore_n 0, 1, n, x0, y0)) (k : Ok g M R Z kc ks h n (some (.int x) :: r) st) : Ok g M R Z kc ks h pc (a0 :: r) (.int x :: st) := k_istore_n hf (by show 0 < List.length _; simp only [List.length_cons]; omega) rfl rfl k
theorem k_ast0 {a0 : Option Value} {r : List (Option Value)} {x : Nat} (hf : md_f M pc = some (.astore_n 0, 1, n, x0, y0)) (k : Ok g M R Z kc ks h n (some (.ref x) :: r) st) : Ok g M R Z kc ks h pc (a0 :: r) (.ref x :: st) := k_astore_n hf (by show 0 < List.length _; simp only [List.length_cons]; omega) rfl rfl k
theorem k_lst0 {a0 b : Option Value} {r : List (Option Value)} {x : Int64} (hf : md_f M pc = some (.lstore_n 0, 1, n, x0, y0)) (k : Ok g M R Z kc ks h n (some (.long x) :: none :: r) st) : Ok g M R Z kc ks h pc (a0 :: b :: r) (.long x :: st) := k_lstore_n hf (by show 0 + 1 < List.length _; simp only [List.length_cons]; omega) rfl rfl k
theorem k_inc0 {r : List (Option Value)} {x : Int32} (hf : md_f M pc = some (.iinc 0 1, 3, n, x0, y0)) (k : Ok g M R Z kc ks h n (some (.int (x + 1)) :: r) st) : Ok g M R Z kc ks h pc (some (.int x) :: r) st := k_iinc hf rfl rfl rfl rfl k
theorem k_incN0 {r : List (Option Value)} {j : Nat} (hf : md_f M pc = some (.iinc 0 1, 3, n, x0, y0)) (k : Ok g M R Z kc ks h n (some (.int (nI (j + 1))) :: r) st) : Ok g M R Z kc ks h pc (some (.int (nI j)) :: r) st := k_iinc hf rfl (nI_1 j) rfl rfl k
theorem k_decN0 {r : List (Option Value)} {j : Nat} (hf : md_f M pc = some (.iinc 0 (-1), 3, n, x0, y0)) (k : Ok g M R Z kc ks h n (some (.int (nI j)) :: r) st) : Ok g M R Z kc ks h pc (some (.int (nI (j + 1))) :: r) st := k_iinc hf rfl (pk_m1 j) rfl rfl k
theorem k_ist1 {a0 a1 : Option Value} {r : List (Option Value)} {x : Int32} (hf : md_f M pc = some (.istore_n 1, 1, n, x0, y0)) (hs : lc_1 a0 = true) (k : Ok g M R Z kc ks h n (a0 :: some (.int x) :: r) st) : Ok g M R Z kc ks h pc (a0 :: a1 :: r) (.int x :: st) := k_istore_n hf (by show 1 < List.length _; simp only [List.length_cons]; omega) hs rfl k
theorem k_ast1 {a0 a1 : Option Value} {r : List (Option Value)} {x : Nat} (hf : md_f M pc = some (.astore_n 1, 1, n, x0, y0)) (hs : lc_1 a0 = true) (k : Ok g M R Z kc ks h n (a0 :: some (.ref x) :: r) st) : Ok g M R Z kc ks h pc (a0 :: a1 :: r) (.ref x :: st) := k_astore_n hf (by show 1 < List.length _; simp only [List.length_cons]; omega) hs rfl k
theorem k_lst1 {a0 a1 b : Option Value} {r : List (Option Value)} {x : Int64} (hf : md_f M pc = some (.lstore_n 1, 1, n, x0, y0)) (hs : lc_1 a0 = true) (k : Ok g M R Z kc ks h n (a0 :: some (.long x) :: none :: r) st) : Ok g M R Z kc ks h pc (a0 :: a1 :: b :: r) (.long x :: st) := k_lstore_n hf (by show 1 + 1 < List.length _; simp only [List.length_cons]; omega) hs rfl k
theorem k_inc1 {a0 : Option Value} {r : List (Option Value)} {x : Int32} (hf : md_f M pc = some (.iinc 1 1, 3, n, x0, y0)) (hs : lc_1 a0 = true) (k : Ok g M R Z kc ks h n (a0 :: some (.int (x + 1)) :: r) st) : Ok g M R Z kc ks h pc (a0 :: some (.int x) :: r) st := k_iinc hf rfl rfl hs rfl k
theorem k_incN1 {a0 : Option Value} {r : List (Option Value)} {j : Nat} (hf : md_f M pc = some (.iinc 1 1, 3, n, x0, y0)) (hs : lc_1 a0 = true) (k : Ok g M R Z kc ks h n (a0 :: some (.int (nI (j + 1))) :: r) st) : Ok g M R Z kc ks h pc (a0 :: some (.int (nI j)) :: r) st := k_iinc hf rfl (nI_1 j) hs rfl k
theorem k_decN1 {a0 : Option Value} {r : List (Option Value)} {j : Nat} (hf : md_f M pc = some (.iinc 1 (-1), 3, n, x0, y0)) (hs : lc_1 a0 = true) (k : Ok g M R Z kc ks h n (a0 :: some (.int (nI j)) :: r) st) : Ok g M R Z kc ks h pc (a0 :: some (.int (nI (j + 1))) :: r) st := k_iinc hf rfl (pk_m1 j) hs rfl k
theorem k_ist2 {a0 a1 a2 : Option Value} {r : List (Option Value)} {x : Int32} (hf : md_f M pc = some (.istore_n 2, 1, n, x0, y0)) (hs : lc_1 a1 = true) (k : Ok g M R Z kc ks h n (a0 :: a1 :: some (.int x) :: r) st) : Ok g M R Z kc ks h pc (a0 :: a1 :: a2 :: r) (.int x :: st) := k_istore_n hf (by show 2 < List.length _; simp only [List.length_cons]; omega) hs rfl k
theorem k_ast2 {a0 a1 a2 : Option Value} {r : List (Option Value)} {x : Nat} (hf : md_f M pc = some (.astore_n 2, 1, n, x0, y0)) (hs : lc_1 a1 = true) (k : Ok g M R Z kc ks h n (a0 :: a1 :: some (.ref x) :: r) st) : Ok g M R Z kc ks h pc (a0 :: a1 :: a2 :: r) (.ref x :: st) := k_astore_n hf (by show 2 < List.length _; simp only [List.length_cons]; omega) hs rfl k
theorem k_lst2 {a0 a1 a2 b : Option Value} {r : List (Option Value)} {x : Int64} (hf : md_f M pc = some (.lstore_n 2, 1, n, x0, y0)) (hs : lc_1 a1 = true) (k : Ok g M R Z kc ks h n (a0 :: a1 :: some (.long x) :: none :: r) st) : Ok g M R Z kc ks h pc (a0 :: a1 :: a2 :: b :: r) (.long x :: st) := k_lstore_n hf (by show 2 + 1 < List.length _; simp only [List.length_cons]; omega) hs rfl k
theorem k_inc2 {a0 a1 : Option Value} {r : List (Option Value)} {x : Int32} (hf : md_f M pc = some (.iinc 2 1, 3, n, x0, y0)) (hs : lc_1 a1 = true) (k : Ok g M R Z kc ks h n (a0 :: a1 :: some (.int (x + 1)) :: r) st) : Ok g M R Z kc ks h pc (a0 :: a1 :: some (.int x) :: r) st := k_iinc hf rfl rfl hs rfl k
theorem k_incN2 {a0 a1 : Option Value} {r : List (Option Value)} {j : Nat} (hf : md_f M pc = some (.iinc 2 1, 3, n, x0, y0)) (hs : lc_1 a1 = true) (k : Ok g M R Z kc ks h n (a0 :: a1 :: some (.int (nI (j + 1))) :: r) st) : Ok g M R Z kc ks h pc (a0 :: a1 :: some (.int (nI j)) :: r) st := k_iinc hf rfl (nI_1 j) hs rfl k
theorem k_decN2 {a0 a1 : Option Value} {r : List (Option Value)} {j : Nat} (hf : md_f M pc = some (.iinc 2 (-1), 3, n, x0, y0)) (hs : lc_1 a1 = true) (k : Ok g M R Z kc ks h n (a0 :: a1 :: some (.int (nI j)) :: r) st) : Ok g M R Z kc ks h pc (a0 :: a1 :: some (.int (nI (j + 1))) :: r) st := k_iinc hf rfl (pk_m1 j) hs rfl k
theorem k_ist3 {a0 a1 a2 a3 : Option Value} {r : List (Option Value)} {x : Int32} (hf : md_f M pc = some (.istore_n 3, 1, n, x0, y0)) (hs : lc_1 a2 = true) (k : Ok g M R Z kc ks h n (a0 :: a1 :: a2 :: some (.int x) :: r) st) : Ok g M R Z kc ks h pc (a0 :: a1 :: a2 :: a3 :: r) (.int x :: st) := k_istore_n hf (by show 3 < List.length _; simp only [List.length_cons]; omega) hs rfl k
theorem k_ast3 {a0 a1 a2 a3 : Option Value} {r : List (Option Value)} {x : Nat} (hf : md_f M pc = some (.astore_n 3, 1, n, x0, y0)) (hs : lc_1 a2 = true) (k : Ok g M R Z kc ks h n (a0 :: a1 :: a2 :: some (.ref x) :: r) st) : Ok g M R Z kc ks h pc (a0 :: a1 :: a2 :: a3 :: r) (.ref x :: st) := k_astore_n hf (by show 3 < List.length _; simp only [List.length_cons]; omega) hs rfl k
theorem k_lst3 {a0 a1 a2 a3 b : Option Value} {r : List (Option Value)} {x : Int64} (hf : md_f M pc = some (.lstore_n 3, 1, n, x0, y0)) (hs : lc_1 a2 = true) (k : Ok g M R Z kc ks h n (a0 :: a1 :: a2 :: some (.long x) :: none :: r) st) : Ok g M R Z kc ks h pc (a0 :: a1 :: a2 :: a3 :: b :: r) (.long x :: st) := k_lstore_n hf (by show 3 + 1 < List.length _; simp only [List.length_cons]; omega) hs rfl k
theorem k_inc3 {a0 a1 a2 : Option Value} {r : List (Option Value)} {x : Int32} (hf : md_f M pc = some (.iinc 3 1, 3, n, x0, y0)) (hs : lc_1 a2 = true) (k : Ok g M R Z kc ks h n (a0 :: a1 :: a2 :: some (.int (x + 1)) :: r) st) : Ok g M R Z kc ks h pc (a0 :: a1 :: a2 :: some (.int x) :: r) st := k_iinc hf rfl rfl hs rfl k
theorem k_incN3 {a0 a1 a2 : Option Value} {r : List (Option Value)} {j : Nat} (hf : md_f M pc = some (.iinc 3 1, 3, n, x0, y0)) (hs : lc_1 a2 = true) (k : Ok g M R Z kc ks h n (a0 :: a1 :: a2 :: some (.int (nI (j + 1))) :: r) st) : Ok g M R Z kc ks h pc (a0 :: a1 :: a2 :: some (.int (nI j)) :: r) st := k_iinc hf rfl (nI_1 j) hs rfl k
theorem k_decN3 {a0 a1 a2 : Option Value} {r : List (Option Value)} {j : Nat} (hf : md_f M pc = some (.iinc 3 (-1), 3, n, x0, y0)) (hs : lc_1 a2 = true) (k : Ok g M R Z kc ks h n (a0 :: a1 :: a2 :: some (.int (nI j)) :: r) st) : Ok g M R Z kc ks h pc (a0 :: a1 :: a2 :: some (.int (nI (j + 1))) :: r) st := k_iinc hf rfl (pk_m1 j) hs rfl k
theorem k_ist4 {a0 a1 a2 a3 a4 : Option Value} {r : List (Option Value)} {x : Int32} (hf : md_f M pc = some (.istore 4, 2, n, x0, y0)) (hs : lc_1 a3 = true) (k : Ok g M R Z kc ks h n (a0 :: a1 :: a2 :: a3 :: some (.int x) :: r) st) : Ok g M R Z kc ks h pc (a0 :: a1 :: a2 :: a3 :: a4 :: r) (.int x :: st) := k_istore hf (by show 4 < List.length _; simp only [List.length_cons]; omega) hs rfl k
theorem k_ast4 {a0 a1 a2 a3 a4 : Option Value} {r : List (Option Value)} {x : Nat} (hf : md_f M pc = some (.astore 4, 2, n, x0, y0)) (hs : lc_1 a3 = true) (k : Ok g M R Z kc ks h n (a0 :: a1 :: a2 :: a3 :: some (.ref x) :: r) st) : Ok g M R Z kc ks h pc (a0 :: a1 :: a2 :: a3 :: a4 :: r) (.ref x :: st) := k_astore hf (by show 4 < List.length _; simp only [List.length_cons]; omega) hs rfl k
theorem k_lst4 {a0 a1 a2 a3 a4 b : Option Value} {r : List (Option Value)} {x : Int64} (hf : md_f M pc = some (.lstore 4, 2, n, x0, y0)) (hs : lc_1 a3 = true) (k : Ok g M R Z kc ks h n (a0 :: a1 :: a2 :: a3 :: some (.long x) :: none :: r) st) : Ok g M R Z kc ks h pc (a0 :: a1 :: a2 :: a3 :: a4 :: b :: r) (.long x :: st) := k_lstore hf (by show 4 + 1 < List.length _; simp only [List.length_cons]; omega) hs rfl k
theorem k_inc4 {a0 a1 a2 a3 : Option Value} {r : List (Option Value)} {x : Int32} (hf : md_f M pc = some (.iinc 4 1, 3, n, x0, y0)) (hs : lc_1 a3 = true) (k : Ok g M R Z kc ks h n (a0 :: a1 :: a2 :: a3 :: some (.int (x + 1)) :: r) st) : Ok g M R Z kc ks h pc (a0 :: a1 :: a2 :: a3 :: some (.int x) :: r) st := k_iinc hf rfl rfl hs rfl k
theorem k_incN4 {a0 a1 a2 a3 : Option Value} {r : List (Option Value)} {j : Nat} (hf : md_f M pc = some (.iinc 4 1, 3, n, x0, y0)) (hs : lc_1 a3 = true) (k : Ok g M R Z kc ks h n (a0 :: a1 :: a2 :: a3 :: some (.int (nI (j + 1))) :: r) st) : Ok g M R Z kc ks h pc (a0 :: a1 :: a2 :: a3 :: some (.int (nI j)) :: r) st := k_iinc hf rfl (nI_1 j) hs rfl k
theorem k_decN4 {a0 a1 a2 a3 : Option Value} {r : List (Option Value)} {j : Nat} (hf : md_f M pc = some (.iinc 4 (-1), 3, n, x0, y0)) (hs : lc_1 a3 = true) (k : Ok g M R Z kc ks h n (a0 :: a1 :: a2 :: a3 :: some (.int (nI j)) :: r) st) : Ok g M R Z kc ks h pc (a0 :: a1 :: a2 :: a3 :: some (.int (nI (j + 1))) :: r) st := k_iinc hf rfl (pk_m1 j) hs rfl k
theorem k_ist5 {a0 a1 a2 a3 a4 a5 : Option Value} {r : List (Option Value)} {x : Int32} (hf : md_f M pc = some (.istore 5, 2, n, x0, y0)) (hs : lc_1 a4 = true) (k : Ok g M R Z kc ks h n (a0 :: a1 :: a2 :: a3 :: a4 :: some (.int x) :: r) st) : Ok g M R Z kc ks h pc (a0 :: a1 :: a2 :: a3 :: a4 :: a5 :: r) (.int x :: st) := k_istore hf (by show 5 < List.length _; simp only [List.length_cons]; omega) hs rfl k
theorem k_ast5 {a0 a1 a2 a3 a4 a5 : Option Value} {r : List (Option Value)} {x : Nat} (hf : md_f M pc = some (.astore 5, 2, n, x0, y0)) (hs : lc_1 a4 = true) (k : Ok g M R Z kc ks h n (a0 :: a1 :: a2 :: a3 :: a4 :: some (.ref x) :: r) st) : Ok g M R Z kc ks h pc (a0 :: a1 :: a2 :: a3 :: a4 :: a5 :: r) (.ref x :: st) := k_astore hf (by show 5 < List.length _; simp only [List.length_cons]; omega) hs rfl k
theorem k_lst5 {a0 a1 a2 a3 a4 a5 b : Option Value} {r : List (Option Value)} {x : Int64} (hf : md_f M pc = some (.lstore 5, 2, n, x0, y0)) (hs : lc_1 a4 = true) (k : Ok g M R Z kc ks h n (a0 :: a1 :: a2 :: a3 :: a4 :: some (.long x) :: none :: r) st) : Ok g M R Z kc ks h pc (a0 :: a1 :: a2 :: a3 :: a4 :: a5 :: b :: r) (.long x :: st) := k_lstore hf (by show 5 + 1 < List.length _; simp only [List.length_cons]; omega) hs rfl k
theorem k_inc5 {a0 a1 a2 a3 a4 : Option Value} {r : List (Option Value)} {x : Int32} (hf : md_f M pc = some (.iinc 5 1, 3, n, x0, y0)) (hs : lc_1 a4 = true) (k : Ok g M R Z kc ks h n (a0 :: a1 :: a2 :: a3 :: a4 :: some (.int (x + 1)) :: r) st) : Ok g M R Z kc ks h pc (a0 :: a1 :: a2 :: a3 :: a4 :: some (.int x) :: r) st := k_iinc hf rfl rfl hs rfl k
theorem k_incN5 {a0 a1 a2 a3 a4 : Option Value} {r : List (Option Value)} {j : Nat} (hf : md_f M pc = some (.iinc 5 1, 3, n, x0, y0)) (hs : lc_1 a4 = true) (k : Ok g M R Z kc ks h n (a0 :: a1 :: a2 :: a3 :: a4 :: some (.int (nI (j + 1))) :: r) st) : Ok g M R Z kc ks h pc (a0 :: a1 :: a2 :: a3 :: a4 :: some (.int (nI j)) :: r) st := k_iinc hf rfl (nI_1 j) hs rfl k
theorem k_decN5 {a0 a1 a2 a3 a4 : Option Value} {r : List (Option Value)} {j : Nat} (hf : md_f M pc = some (.iinc 5 (-1), 3, n, x0, y0)) (hs : lc_1 a4 = true) (k : Ok g M R Z kc ks h n (a0 :: a1 :: a2 :: a3 :: a4 :: some (.int (nI j)) :: r) st) : Ok g M R Z kc ks h pc (a0 :: a1 :: a2 :: a3 :: a4 :: some (.int (nI (j + 1))) :: r) st := k_iinc hf rfl (pk_m1 j) hs rfl k
theorem k_ist6 {a0 a1 a2 a3 a4 a5 a6 : Option Value} {r : List (Option Value)} {x : Int32} (hf : md_f M pc = some (.istore 6, 2, n, x0, y0)) (hs : lc_1 a5 = true) (k : Ok g M R Z kc ks h n (a0 :: a1 :: a2 :: a3 :: a4 :: a5 :: some (.int x) :: r) st) : Ok g M R Z kc ks h pc (a0 :: a1 :: a2 :: a3 :: a4 :: a5 :: a6 :: r) (.int x :: st) := k_istore hf (by show 6 < List.length _; simp only [List.length_cons]; omega) hs rfl k
theorem k_ast6 {a0 a1 a2 a3 a4 a5 a6 : Option Value} {r : List (Option Value)} {x : Nat} (hf : md_f M pc = some (.astore 6, 2, n, x0, y0)) (hs : lc_1 a5 = true) (k : Ok g M R Z kc ks h n (a0 :: a1 :: a2 :: a3 :: a4 :: a5 :: some (.ref x) :: r) st) : Ok g M R Z kc ks h pc (a0 :: a1 :: a2 :: a3 :: a4 :: a5 :: a6 :: r) (.ref x :: st) := k_astore hf (by show 6 < List.length _; simp only [List.length_cons]; omega) hs rfl k
theorem k_lst6 {a0 a1 a2 a3 a4 a5 a6 b : Option Value} {r : List (Option Value)} {x : Int64} (hf : md_f M pc = some (.lstore 6, 2, n, x0, y0)) (hs : lc_1 a5 = true) (k : Ok g M R Z kc ks h n (a0 :: a1 :: a2 :: a3 :: a4 :: a5 :: some (.long x) :: none :: r) st) : Ok g M R Z kc ks h pc (a0 :: a1 :: a2 :: a3 :: a4 :: a5 :: a6 :: b :: r) (.long x :: st) := k_lstore hf (by show 6 + 1 < List.length _; simp only [List.length_cons]; omega) hs rfl k
theorem k_inc6 {a0 a1 a2 a3 a4 a5 : Option Value} {r : List (Option Value)} {x : Int32} (hf : md_f M pc = some (.iinc 6 1, 3, n, x0, y0)) (hs : lc_1 a5 = true) (k : Ok g M R Z kc ks h n (a0 :: a1 :: a2 :: a3 :: a4 :: a5 :: some (.int (x + 1)) :: r) st) : Ok g M R Z kc ks h pc (a0 :: a1 :: a2 :: a3 :: a4 :: a5 :: some (.int x) :: r) st := k_iinc hf rfl rfl hs rfl k
theorem k_incN6 {a0 a1 a2 a3 a4 a5 : Option Value} {r : List (Option Value)} {j : Nat} (hf : md_f M pc = some (.iinc 6 1, 3, n, x0, y0)) (hs : lc_1 a5 = true) (k : Ok g M R Z kc ks h n (a0 :: a1 :: a2 :: a3 :: a4 :: a5 :: some (.int (nI (j + 1))) :: r) st) : Ok g M R Z kc ks h pc (a0 :: a1 :: a2 :: a3 :: a4 :: a5 :: some (.int (nI j)) :: r) st := k_iinc hf rfl (nI_1 j) hs rfl k
theorem k_decN6 {a0 a1 a2 a3 a4 a5 : Option Value} {r : List (Option Value)} {j : Nat} (hf : md_f M pc = some (.iinc 6 (-1), 3, n, x0, y0)) (hs : lc_1 a5 = true) (k : Ok g M R Z kc ks h n (a0 :: a1 :: a2 :: a3 :: a4 :: a5 :: some (.int (nI j)) :: r) st) : Ok g M R Z kc ks h pc (a0 :: a1 :: a2 :: a3 :: a4 :: a5 :: some (.int (nI (j + 1))) :: r) st := k_iinc hf rfl (pk_m1 j) hs rfl k
theorem k_ist7 {a0 a1 a2 a3 a4 a5 a6 a7 : Option Value} {r : List (Option Value)} {x : Int32} (hf : md_f M pc = some (.istore 7, 2, n, x0, y0)) (hs : lc_1 a6 = true) (k : Ok g M R Z kc ks h n (a0 :: a1 :: a2 :: a3 :: a4 :: a5 :: a6 :: some (.int x) :: r) st) : Ok g M R Z kc ks h pc (a0 :: a1 :: a2 :: a3 :: a4 :: a5 :: a6 :: a7 :: r) (.int x :: st) := k_istore hf (by show 7 < List.length _; simp only [List.length_cons]; omega) hs rfl k
theorem k_ast7 {a0 a1 a2 a3 a4 a5 a6 a7 : Option Value} {r : List (Option Value)} {x : Nat} (hf : md_f M pc = some (.astore 7, 2, n, x0, y0)) (hs : lc_1 a6 = true) (k : Ok g M R Z kc ks h n (a0 :: a1 :: a2 :: a3 :: a4 :: a5 :: a6 :: some (.ref x) :: r) st) : Ok g M R Z kc ks h pc (a0 :: a1 :: a2 :: a3 :: a4 :: a5 :: a6 :: a7 :: r) (.ref x :: st) := k_astore hf (by show 7 < List.length _; simp only [List.length_cons]; omega) hs rfl k
theorem k_lst7 {a0 a1 a2 a3 a4 a5 a6 a7 b : Option Value} {r : List (Option Value)} {x : Int64} (hf : md_f M pc = some (.lstore 7, 2, n, x0, y0)) (hs : lc_1 a6 = true) (k : Ok g M R Z kc ks h n (a0 :: a1 :: a2 :: a3 :: a4 :: a5 :: a6 :: some (.long x) :: none :: r) st) : Ok g M R Z kc ks h pc (a0 :: a1 :: a2 :: a3 :: a4 :: a5 :: a6 :: a7 :: b :: r) (.long x :: st) := k_lstore hf (by show 7 + 1 < List.length _; simp only [List.length_cons]; omega) hs rfl k
theorem k_inc7 {a0 a1 a2 a3 a4 a5 a6 : Option Value} {r : List (Option Value)} {x : Int32} (hf : md_f M pc = some (.iinc 7 1, 3, n, x0, y0)) (hs : lc_1 a6 = true) (k : Ok g M R Z kc ks h n (a0 :: a1 :: a2 :: a3 :: a4 :: a5 :: a6 :: some (.int (x + 1)) :: r) st) : Ok g M R Z kc ks h pc (a0 :: a1 :: a2 :: a3 :: a4 :: a5 :: a6 :: some (.int x) :: r) st := k_iinc hf rfl rfl hs rfl k
theorem k_incN7 {a0 a1 a2 a3 a4 a5 a6 : Option Value} {r : List (Option Value)} {j : Nat} (hf : md_f M pc = some (.iinc 7 1, 3, n, x0, y0)) (hs : lc_1 a6 = true) (k : Ok g M R Z kc ks h n (a0 :: a1 :: a2 :: a3 :: a4 :: a5 :: a6 :: some (.int (nI (j + 1))) :: r) st) : Ok g M R Z kc ks h pc (a0 :: a1 :: a2 :: a3 :: a4 :: a5 :: a6 :: some (.int (nI j)) :: r) st := k_iinc hf rfl (nI_1 j) hs rfl k
theorem k_decN7 {a0 a1 a2 a3 a4 a5 a6 : Option Value} {r : List (Option Value)} {j : Nat} (hf : md_f M pc = some (.iinc 7 (-1), 3, n, x0, y0)) (hs : lc_1 a6 = true) (k : Ok g M R Z kc ks h n (a0 :: a1 :: a2 :: a3 :: a4 :: a5 :: a6 :: some (.int (nI j)) :: r) st) : Ok g M R Z kc ks h pc (a0 :: a1 :: a2 :: a3 :: a4 :: a5 :: a6 :: some (.int (nI (j + 1))) :: r) st := k_iinc hf rfl (pk_m1 j) hs rfl k
theorem k_ist8 {a0 a1 a2 a3 a4 a5 a6 a7 a8 : Option Value} {r : List (Option Value)} {x : Int32} (hf : md_f M pc = some (.istore 8, 2, n, x0, y0)) (hs : lc_1 a7 = true) (k : Ok g M R Z kc ks h n (a0 :: a1 :: a2 :: a3 :: a4 :: a5 :: a6 :: a7 :: some (.int x) :: r) st) : Ok g M R Z kc ks h pc (a0 :: a1 :: a2 :: a3 :: a4 :: a5 :: a6 :: a7 :: a8 :: r) (.int x :: st) := k_istore hf (by show 8 < List.length _; simp only [List.length_cons]; omega) hs rfl k
theorem k_ast8 {a0 a1 a2 a3 a4 a5 a6 a7 a8 : Option Value} {r : List (Option Value)} {x : Nat} (hf : md_f M pc = some (.astore 8, 2, n, x0, y0)) (hs : lc_1 a7 = true) (k : Ok g M R Z kc ks h n (a0 :: a1 :: a2 :: a3 :: a4 :: a5 :: a6 :: a7 :: some (.ref x) :: r) st) : Ok g M R Z kc ks h pc (a0 :: a1 :: a2 :: a3 :: a4 :: a5 :: a6 :: a7 :: a8 :: r) (.ref x :: st) := k_astore hf (by show 8 < List.length _; simp only [List.length_cons]; omega) hs rfl k
theorem k_lst8 {a0 a1 a2 a3 a4 a5 a6 a7 a8 b : Option Value} {r : List (Option Value)} {x : Int64} (hf : md_f M pc = some (.lstore 8, 2, n, x0, y0)) (hs : lc_1 a7 = true) (k : Ok g M R Z kc ks h n (a0 :: a1 :: a2 :: a3 :: a4 :: a5 :: a6 :: a7 :: some (.long x) :: none :: r) st) : Ok g M R Z kc ks h pc (a0 :: a1 :: a2 :: a3 :: a4 :: a5 :: a6 :: a7 :: a8 :: b :: r) (.long x :: st) := k_lstore hf (by show 8 + 1 < List.length _; simp only [List.length_cons]; omega) hs rfl k
theorem k_inc8 {a0 a1 a2 a3 a4 a5 a6 a7 : Option Value} {r : List (Option Value)} {x : Int32} (hf : md_f M pc = some (.iinc 8 1, 3, n, x0, y0)) (hs : lc_1 a7 = true) (k : Ok g M R Z kc ks h n (a0 :: a1 :: a2 :: a3 :: a4 :: a5 :: a6 :: a7 :: some (.int (x + 1)) :: r) st) : Ok g M R Z kc ks h pc (a0 :: a1 :: a2 :: a3 :: a4 :: a5 :: a6 :: a7 :: some (.int x) :: r) st := k_iinc hf rfl rfl hs rfl k
theorem k_incN8 {a0 a1 a2 a3 a4 a5 a6 a7 : Option Value} {r : List (Option Value)} {j : Nat} (hf : md_f M pc = some (.iinc 8 1, 3, n, x0, y0)) (hs : lc_1 a7 = true) (k : Ok g M R Z kc ks h n (a0 :: a1 :: a2 :: a3 :: a4 :: a5 :: a6 :: a7 :: some (.int (nI (j + 1))) :: r) st) : Ok g M R Z kc ks h pc (a0 :: a1 :: a2 :: a3 :: a4 :: a5 :: a6 :: a7 :: some (.int (nI j)) :: r) st := k_iinc hf rfl (nI_1 j) hs rfl k
theorem k_decN8 {a0 a1 a2 a3 a4 a5 a6 a7 : Option Value} {r : List (Option Value)} {j : Nat} (hf : md_f M pc = some (.iinc 8 (-1), 3, n, x0, y0)) (hs : lc_1 a7 = true) (k : Ok g M R Z kc ks h n (a0 :: a1 :: a2 :: a3 :: a4 :: a5 :: a6 :: a7 :: some (.int (nI j)) :: r) st) : Ok g M R Z kc ks h pc (a0 :: a1 :: a2 :: a3 :: a4 :: a5 :: a6 :: a7 :: some (.int (nI (j + 1))) :: r) st := k_iinc hf rfl (pk_m1 j) hs rfl k
theorem k_ist9 {a0 a1 a2 a3 a4 a5 a6 a7 a8 a9 : Option Value} {r : List (Option Value)} {x : Int32} (hf : md_f M pc = some (.istore 9, 2, n, x0, y0)) (hs : lc_1 a8 = true) (k : Ok g M R Z kc ks h n (a0 :: a1 :: a2 :: a3 :: a4 :: a5 :: a6 :: a7 :: a8 :: some (.int x) :: r) st) : Ok g M R Z kc ks h pc (a0 :: a1 :: a2 :: a3 :: a4 :: a5 :: a6 :: a7 :: a8 :: a9 :: r) (.int x :: st) := k_istore hf (by show 9 < List.length _; simp only [List.length_cons]; omega) hs rfl k
theorem k_ast9 {a0 a1 a2 a3 a4 a5 a6 a7 a8 a9 : Option Value} {r : List (Option Value)} {x : Nat} (hf : md_f M pc = some (.astore 9, 2, n, x0, y0)) (hs : lc_1 a8 = true) (k : Ok g M R Z kc ks h n (a0 :: a1 :: a2 :: a3 :: a4 :: a5 :: a6 :: a7 :: a8 :: some (.ref x) :: r) st) : Ok g M R Z kc ks h pc (a0 :: a1 :: a2 :: a3 :: a4 :: a5 :: a6 :: a7 :: a8 :: a9 :: r) (.ref x :: st) := k_astore hf (by show 9 < List.length _; simp only [List.length_cons]; omega) hs rfl k
theorem k_lst9 {a0 a1 a2 a3 a4 a5 a6 a7 a8 a9 b : Option Value} {r : List (Option Value)} {x : Int64} (hf : md_f M pc = some (.lstore 9, 2, n, x0, y0)) (hs : lc_1 a8 = true) (k : Ok g M R Z kc ks h n (a0 :: a1 :: a2 :: a3 :: a4 :: a5 :: a6 :: a7 :: a8 :: some (.long x) :: none :: r) st) : Ok g M R Z kc ks h pc (a0 :: a1 :: a2 :: a3 :: a4 :: a5 :: a6 :: a7 :: a8 :: a9 :: b :: r) (.long x :: st) := k_lstore hf (by show 9 + 1 < List.length _; simp only [List.length_cons]; omega) hs rfl k
theorem k_inc9 {a0 a1 a2 a3 a4 a5 a6 a7 a8 : Option Value} {r : List (Option Value)} {x : Int32} (hf : md_f M pc = some (.iinc 9 1, 3, n, x0, y0)) (hs : lc_1 a8 = true) (k : Ok g M R Z kc ks h n (a0 :: a1 :: a2 :: a3 :: a4 :: a5 :: a6 :: a7 :: a8 :: some (.int (x + 1)) :: r) st) : Ok g M R Z kc ks h pc (a0 :: a1 :: a2 :: a3 :: a4 :: a5 :: a6 :: a7 :: a8 :: some (.int x) :: r) st := k_iinc hf rfl rfl hs rfl k
theorem k_incN9 {a0 a1 a2 a3 a4 a5 a6 a7 a8 : Option Value} {r : List (Option Value)} {j : Nat} (hf : md_f M pc = some (.iinc 9 1, 3, n, x0, y0)) (hs : lc_1 a8 = true) (k : Ok g M R Z kc ks h n (a0 :: a1 :: a2 :: a3 :: a4 :: a5 :: a6 :: a7 :: a8 :: some (.int (nI (j + 1))) :: r) st) : Ok g M R Z kc ks h pc (a0 :: a1 :: a2 :: a3 :: a4 :: a5 :: a6 :: a7 :: a8 :: some (.int (nI j)) :: r) st := k_iinc hf rfl (nI_1 j) hs rfl k
theorem k_decN9 {a0 a1 a2 a3 a4 a5 a6 a7 a8 : Option Value} {r : List (Option Value)} {j : Nat} (hf : md_f M pc = some (.iinc 9 (-1), 3, n, x0, y0)) (hs : lc_1 a8 = true) (k : Ok g M R Z kc ks h n (a0 :: a1 :: a2 :: a3 :: a4 :: a5 :: a6 :: a7 :: a8 :: some (.int (nI j)) :: r) st) : Ok g M R Z kc ks h pc (a0 :: a1 :: a2 :: a3 :: a4 :: a5 :: a6 :: a7 :: a8 :: some (.int (nI (j + 1))) :: r) st := k_iinc hf rfl (pk_m1 j) hs rfl k
theorem k_ist10 {a0 a1 a2 a3 a4 a5 a6 a7 a8 a9 a10 : Option Value} {r : List (Option Value)} {x : Int32} (hf : md_f M pc = some (.istore 10, 2, n, x0, y0)) (hs : lc_1 a9 = true) (k : Ok g M R Z kc ks h n (a0 :: a1 :: a2 :: a3 :: a4 :: a5 :: a6 :: a7 :: a8 :: a9 :: some (.int x) :: r) st) : Ok g M R Z kc ks h pc (a0 :: a1 :: a2 :: a3 :: a4 :: a5 :: a6 :: a7 :: a8 :: a9 :: a10 :: r) (.int x :: st) := k_istore hf (by show 10 < List.length _; simp only [List.length_cons]; omega) hs rfl k
theorem k_ast10 {a0 a1 a2 a3 a4 a5 a6 a7 a8 a9 a10 : Option Value} {r : List (Option Value)} {x : Nat} (hf : md_f M pc = some (.astore 10, 2, n, x0, y0)) (hs : lc_1 a9 = true) (k : Ok g M R Z kc ks h n (a0 :: a1 :: a2 :: a3 :: a4 :: a5 :: a6 :: a7 :: a8 :: a9 :: some (.ref x) :: r) st) : Ok g M R Z kc ks h pc (a0 :: a1 :: a2 :: a3 :: a4 :: a5 :: a6 :: a7 :: a8 :: a9 :: a10 :: r) (.ref x :: st) := k_astore hf (by show 10 < List.length _; simp only [List.length_cons]; omega) hs rfl k
theorem k_lst10 {a0 a1 a2 a3 a4 a5 a6 a7 a8 a9 a10 b : Option Value} {r : List (Option Value)} {x : Int64} (hf : md_f M pc = some (.lstore 10, 2, n, x0, y0)) (hs : lc_1 a9 = true) (k : Ok g M R Z kc ks h n (a0 :: a1 :: a2 :: a3 :: a4 :: a5 :: a6 :: a7 :: a8 :: a9 :: some (.long x) :: none :: r) st) : Ok g M R Z kc ks h pc (a0 :: a1 :: a2 :: a3 :: a4 :: a5 :: a6 :: a7 :: a8 :: a9 :: a10 :: b :: r) (.long x :: st) := k_lstore hf (by show 10 + 1 < List.length _; simp only [List.length_cons]; omega) hs rfl k
theorem k_inc10 {a0 a1 a2 a3 a4 a5 a6 a7 a8 a9 : Option Value} {r : List (Option Value)} {x : Int32} (hf : md_f M pc = some (.iinc 10 1, 3, n, x0, y0)) (hs : lc_1 a9 = true) (k : Ok g M R Z kc ks h n (a0 :: a1 :: a2 :: a3 :: a4 :: a5 :: a6 :: a7 :: a8 :: a9 :: some (.int (x + 1)) :: r) st) : Ok g M R Z kc ks h pc (a0 :: a1 :: a2 :: a3 :: a4 :: a5 :: a6 :: a7 :: a8 :: a9 :: some (.int x) :: r) st := k_iinc hf rfl rfl hs rfl k
theorem k_incN10 {a0 a1 a2 a3 a4 a5 a6 a7 a8 a9 : Option Value} {r : List (Option Value)} {j : Nat} (hf : md_f M pc = some (.iinc 10 1, 3, n, x0, y0)) (hs : lc_1 a9 = true) (k : Ok g M R Z kc ks h n (a0 :: a1 :: a2 :: a3 :: a4 :: a5 :: a6 :: a7 :: a8 :: a9 :: some (.int (nI (j + 1))) :: r) st) : Ok g M R Z kc ks h pc (a0 :: a1 :: a2 :: a3 :: a4 :: a5 :: a6 :: a7 :: a8 :: a9 :: some (.int (nI j)) :: r) st := k_iinc hf rfl (nI_1 j) hs rfl k
theorem k_decN10 {a0 a1 a2 a3 a4 a5 a6 a7 a8 a9 : Option Value} {r : List (Option Value)} {j : Nat} (hf : md_f M pc = some (.iinc 10 (-1), 3, n, x0, y0)) (hs : lc_1 a9 = true) (k : Ok g M R Z kc ks h n (a0 :: a1 :: a2 :: a3 :: a4 :: a5 :: a6 :: a7 :: a8 :: a9 :: some (.int (nI j)) :: r) st) : Ok g M R Z kc ks h pc (a0 :: a1 :: a2 :: a3 :: a4 :: a5 :: a6 :: a7 :: a8 :: a9 :: some (.int (nI (j + 1))) :: r) st := k_iinc hf rfl (pk_m1 j) hs rfl k
theorem k_ist11 {a0 a1 a2 a3 a4 a5 a6 a7 a8 a9 a10 a11 : Option Value} {r : List (Option Value)} {x : Int32} (hf : md_f M pc = some (.istore 11, 2, n, x0, y0)) (hs : lc_1 a10 = true) (k : Ok g M R Z kc ks h n (a0 :: a1 :: a2 :: a3 :: a4 :: a5 :: a6 :: a7 :: a8 :: a9 :: a10 :: some (.int x) :: r) st) : Ok g M R Z kc ks h pc (a0 :: a1 :: a2 :: a3 :: a4 :: a5 :: a6 :: a7 :: a8 :: a9 :: a10 :: a11 :: r) (.int x :: st) := k_istore hf (by show 11 < List.length _; simp only [List.length_cons]; omega) hs rfl k
theorem k_ast11 {a0 a1 a2 a3 a4 a5 a6 a7 a8 a9 a10 a11 : Option Value} {r : List (Option Value)} {x : Nat} (hf : md_f M pc = some (.astore 11, 2, n, x0, y0)) (hs : lc_1 a10 = true) (k : Ok g M R Z kc ks h n (a0 :: a1 :: a2 :: a3 :: a4 :: a5 :: a6 :: a7 :: a8 :: a9 :: a10 :: some (.ref x) :: r) st) : Ok g M R Z kc ks h pc (a0 :: a1 :: a2 :: a3 :: a4 :: a5 :: a6 :: a7 :: a8 :: a9 :: a10 :: a11 :: r) (.ref x :: st) := k_astore hf (by show 11 < List.length _; simp only [List.length_cons]; omega) hs rfl k
theorem k_lst11 {a0 a1 a2 a3 a4 a5 a6 a7 a8 a9 a10 a11 b : Option Value} {r : List (Option Value)} {x : Int64} (hf : md_f M pc = some (.lstore 11, 2, n, x0, y0)) (hs : lc_1 a10 = true) (k : Ok g M R Z kc ks h n (a0 :: a1 :: a2 :: a3 :: a4 :: a5 :: a6 :: a7 :: a8 :: a9 :: a10 :: some (.long x) :: none :: r) st) : Ok g M R Z kc ks h pc (a0 :: a1 :: a2 :: a3 :: a4 :: a5 :: a6 :: a7 :: a8 :: a9 :: a10 :: a11 :: b :: r) (.long x :: st) := k_lstore hf (by show 11 + 1 < List.length _; simp only [List.length_cons]; omega) hs rfl k
theorem k_inc11 {a0 a1 a2 a3 a4 a5 a6 a7 a8 a9 a10 : Option Value} {r : List (Option Value)} {x : Int32} (hf : md_f M pc = some (.iinc 11 1, 3, n, x0, y0)) (hs : lc_1 a10 = true) (k : Ok g M R Z kc ks h n (a0 :: a1 :: a2 :: a3 :: a4 :: a5 :: a6 :: a7 :: a8 :: a9 :: a10 :: some (.int (x + 1)) :: r) st) : Ok g M R Z kc ks h pc (a0 :: a1 :: a2 :: a3 :: a4 :: a5 :: a6 :: a7 :: a8 :: a9 :: a10 :: some (.int x) :: r) st := k_iinc hf rfl rfl hs rfl k
theorem k_incN11 {a0 a1 a2 a3 a4 a5 a6 a7 a8 a9 a10 : Option Value} {r : List (Option Value)} {j : Nat} (hf : md_f M pc = some (.iinc 11 1, 3, n, x0, y0)) (hs : lc_1 a10 = true) (k : Ok g M R Z kc ks h n (a0 :: a1 :: a2 :: a3 :: a4 :: a5 :: a6 :: a7 :: a8 :: a9 :: a10 :: some (.int (nI (j + 1))) :: r) st) : Ok g M R Z kc ks h pc (a0 :: a1 :: a2 :: a3 :: a4 :: a5 :: a6 :: a7 :: a8 :: a9 :: a10 :: some (.int (nI j)) :: r) st := k_iinc hf rfl (nI_1 j) hs rfl k
theorem k_decN11 {a0 a1 a2 a3 a4 a5 a6 a7 a8 a9 a10 : Option Value} {r : List (Option Value)} {j : Nat} (hf : md_f M pc = some (.iinc 11 (-1), 3, n, x0, y0)) (hs : lc_1 a10 = true) (k : Ok g M R Z kc ks h n (a0 :: a1 :: a2 :: a3 :: a4 :: a5 :: a6 :: a7 :: a8 :: a9 :: a10 :: some (.int (nI j)) :: r) st) : Ok g M R Z kc ks h pc (a0 :: a1 :: a2 :: a3 :: a4 :: a5 :: a6 :: a7 :: a8 :: a9 :: a10 :: some (.int (nI (j + 1))) :: r) st := k_iinc hf rfl (pk_m1 j) hs rfl k
theorem k_ist12 {a0 a1 a2 a3 a4 a5 a6 a7 a8 a9 a10 a11 a12 : Option Value} {r : List (Option Value)} {x : Int32} (hf : md_f M pc = some (.istore 12, 2, n, x0, y0)) (hs : lc_1 a11 = true) (k : Ok g M R Z kc ks h n (a0 :: a1 :: a2 :: a3 :: a4 :: a5 :: a6 :: a7 :: a8 :: a9 :: a10 :: a11 :: some (.int x) :: r) st) : Ok g M R Z kc ks h pc (a0 :: a1 :: a2 :: a3 :: a4 :: a5 :: a6 :: a7 :: a8 :: a9 :: a10 :: a11 :: a12 :: r) (.int x :: st) := k_istore hf (by show 12 < List.length _; simp only [List.length_cons]; omega) hs rfl k
theorem k_ast12 {a0 a1 a2 a3 a4 a5 a6 a7 a8 a9 a10 a11 a12 : Option Value} {r : List (Option Value)} {x : Nat} (hf : md_f M pc = some (.astore 12, 2, n, x0, y0)) (hs : lc_1 a11 = true) (k : Ok g M R Z kc ks h n (a0 :: a1 :: a2 :: a3 :: a4 :: a5 :: a6 :: a7 :: a8 :: a9 :: a10 :: a11 :: some (.ref x) :: r) st) : Ok g M R Z kc ks h pc (a0 :: a1 :: a2 :: a3 :: a4 :: a5 :: a6 :: a7 :: a8 :: a9 :: a10 :: a11 :: a12 :: r) (.ref x :: st) := k_astore hf (by show 12 < List.length _; simp only [List.length_cons]; omega) hs rfl k
theorem k_lst12 {a0 a1 a2 a3 a4 a5 a6 a7 a8 a9 a10 a11 a12 b : Option Value} {r : List (Option Value)} {x : Int64} (hf : md_f M pc = some (.lstore 12, 2, n, x0, y0)) (hs : lc_1 a11 = true) (k : Ok g M R Z kc ks h n (a0 :: a1 :: a2 :: a3 :: a4 :: a5 :: a6 :: a7 :: a8 :: a9 :: a10 :: a11 :: some (.long x) :: none :: r) st) : Ok g M R Z kc ks h pc (a0 :: a1 :: a2 :: a3 :: a4 :: a5 :: a6 :: a7 :: a8 :: a9 :: a10 :: a11 :: a12 :: b :: r) (.long x :: st) := k_lstore hf (by show 12 + 1 < List.length _; simp only [List.length_cons]; omega) hs rfl k
theorem k_inc12 {a0 a1 a2 a3 a4 a5 a6 a7 a8 a9 a10 a11 : Option Value} {r : List (Option Value)} {x : Int32} (hf : md_f M pc = some (.iinc 12 1, 3, n, x0, y0)) (hs : lc_1 a11 = true) (k : Ok g M R Z kc ks h n (a0 :: a1 :: a2 :: a3 :: a4 :: a5 :: a6 :: a7 :: a8 :: a9 :: a10 :: a11 :: some (.int (x + 1)) :: r) st) : Ok g M R Z kc ks h pc (a0 :: a1 :: a2 :: a3 :: a4 :: a5 :: a6 :: a7 :: a8 :: a9 :: a10 :: a11 :: some (.int x) :: r) st := k_iinc hf rfl rfl hs rfl k
theorem k_incN12 {a0 a1 a2 a3 a4 a5 a6 a7 a8 a9 a10 a11 : Option Value} {r : List (Option Value)} {j : Nat} (hf : md_f M pc = some (.iinc 12 1, 3, n, x0, y0)) (hs : lc_1 a11 = true) (k : Ok g M R Z kc ks h n (a0 :: a1 :: a2 :: a3 :: a4 :: a5 :: a6 :: a7 :: a8 :: a9 :: a10 :: a11 :: some (.int (nI (j + 1))) :: r) st) : Ok g M R Z kc ks h pc (a0 :: a1 :: a2 :: a3 :: a4 :: a5 :: a6 :: a7 :: a8 :: a9 :: a10 :: a11 :: some (.int (nI j)) :: r) st := k_iinc hf rfl (nI_1 j) hs rfl k
theorem k_decN12 {a0 a1 a2 a3 a4 a5 a6 a7 a8 a9 a10 a11 : Option Value} {r : List (Option Value)} {j : Nat} (hf : md_f M pc = some (.iinc 12 (-1), 3, n, x0, y0)) (hs : lc_1 a11 = true) (k : Ok g M R Z kc ks h n (a0 :: a1 :: a2 :: a3 :: a4 :: a5 :: a6 :: a7 :: a8 :: a9 :: a10 :: a11 :: some (.int (nI j)) :: r) st) : Ok g M R Z kc ks h pc (a0 :: a1 :: a2 :: a3 :: a4 :: a5 :: a6 :: a7 :: a8 :: a9 :: a10 :: a11 :: some (.int (nI (j + 1))) :: r) st := k_iinc hf rfl (pk_m1 j) hs rfl k
theorem k_ist13 {a0 a1 a2 a3 a4 a5 a6 a7 a8 a9 a10 a11 a12 a13 : Option Value} {r : List (Option Value)} {x : Int32} (hf : md_f M pc = some (.istore 13, 2, n, x0, y0)) (hs : lc_1 a12 = true) (k : Ok g M R Z kc ks h n (a0 :: a1 :: a2 :: a3 :: a4 :: a5 :: a6 :: a7 :: a8 :: a9 :: a10 :: a11 :: a12 :: some (.int x) :: r) st) : Ok g M R Z kc ks h pc (a0 :: a1 :: a2 :: a3 :: a4 :: a5 :: a6 :: a7 :: a8 :: a9 :: a10 :: a11 :: a12 :: a13 :: r) (.int x :: st) := k_istore hf (by show 13 < List.length _; simp only [List.length_cons]; omega) hs rfl k
theorem k_ast13 {a0 a1 a2 a3 a4 a5 a6 a7 a8 a9 a10 a11 a12 a13 : Option Value} {r : List (Option Value)} {x : Nat} (hf : md_f M pc = some (.astore 13, 2, n, x0, y0)) (hs : lc_1 a12 = true) (k : Ok g M R Z kc ks h n (a0 :: a1 :: a2 :: a3 :: a4 :: a5 :: a6 :: a7 :: a8 :: a9 :: a10 :: a11 :: a12 :: some (.ref x) :: r) st) : Ok g M R Z kc ks h pc (a0 :: a1 :: a2 :: a3 :: a4 :: a5 :: a6 :: a7 :: a8 :: a9 :: a10 :: a11 :: a12 :: a13 :: r) (.ref x :: st) := k_astore hf (by show 13 < List.length _; simp only [List.length_cons]; omega) hs rfl k
theorem k_lst13 {a0 a1 a2 a3 a4 a5 a6 a7 a8 a9 a10 a11 a12 a13 b : Option Value} {r : List (Option Value)} {x : Int64} (hf : md_f M pc = some (.lstore 13, 2, n, x0, y0)) (hs : lc_1 a12 = true) (k : Ok g M R Z kc ks h n (a0 :: a1 :: a2 :: a3 :: a4 :: a5 :: a6 :: a7 :: a8 :: a9 :: a10 :: a11 :: a12 :: some (.long x) :: none :: r) st) : Ok g M R Z kc ks h pc (a0 :: a1 :: a2 :: a3 :: a4 :: a5 :: a6 :: a7 :: a8 :: a9 :: a10 :: a11 :: a12 :: a13 :: b :: r) (.long x :: st) := k_lstore hf (by show 13 + 1 < List.length _; simp only [List.length_cons]; omega) hs rfl k
theorem k_inc13 {a0 a1 a2 a3 a4 a5 a6 a7 a8 a9 a10 a11 a12 : Option Value} {r : List (Option Value)} {x : Int32} (hf : md_f M pc = some (.iinc 13 1, 3, n, x0, y0)) (hs : lc_1 a12 = true) (k : Ok g M R Z kc ks h n (a0 :: a1 :: a2 :: a3 :: a4 :: a5 :: a6 :: a7 :: a8 :: a9 :: a10 :: a11 :: a12 :: some (.int (x + 1)) :: r) st) : Ok g M R Z kc ks h pc (a0 :: a1 :: a2 :: a3 :: a4 :: a5 :: a6 :: a7 :: a8 :: a9 :: a10 :: a11 :: a12 :: some (.int x) :: r) st := k_iinc hf rfl rfl hs rfl k
theorem k_incN13 {a0 a1 a2 a3 a4 a5 a6 a7 a8 a9 a10 a11 a12 : Option Value} {r : List (Option Value)} {j : Nat} (hf : md_f M pc = some (.iinc 13 1, 3, n, x0, y0)) (hs : lc_1 a12 = true) (k : Ok g M R Z kc ks h n (a0 :: a1 :: a2 :: a3 :: a4 :: a5 :: a6 :: a7 :: a8 :: a9 :: a10 :: a11 :: a12 :: some (.int (nI (j + 1))) :: r) st) : Ok g M R Z kc ks h pc (a0 :: a1 :: a2 :: a3 :: a4 :: a5 :: a6 :: a7 :: a8 :: a9 :: a10 :: a11 :: a12 :: some (.int (nI j)) :: r) st := k_iinc hf rfl (nI_1 j) hs rfl k
theorem k_decN13 {a0 a1 a2 a3 a4 a5 a6 a7 a8 a9 a10 a11 a12 : Option Value} {r : List (Option Value)} {j : Nat} (hf : md_f M pc = some (.iinc 13 (-1), 3, n, x0, y0)) (hs : lc_1 a12 = true) (k : Ok g M R Z kc ks h n (a0 :: a1 :: a2 :: a3 :: a4 :: a5 :: a6 :: a7 :: a8 :: a9 :: a10 :: a11 :: a12 :: some (.int (nI j)) :: r) st) : Ok g M R Z kc ks h pc (a0 :: a1 :: a2 :: a3 :: a4 :: a5 :: a6 :: a7 :: a8 :: a9 :: a10 :: a11 :: a12 :: some (.int (nI (j + 1))) :: r) st := k_iinc hf rfl (pk_m1 j) hs rfl k
theorem kn_ge {o : Int} {a b : Nat} (hf : md_f M pc = some (.if_icmp .ge o, 3, n, x0, y0)) (ha : a < 2 ^ 31) (hb : b < 2 ^ 31) (kt : b ≤ a → Ok g M R Z kc ks h x0 L st) (kf : a < b → Ok g M R Z kc ks h n L st) : Ok g M R Z kc ks h pc L (.int (nI b) :: .int (nI a) :: st) := k_icmp_ge hf (fun q => kt ((nI_leI hb ha).mp q)) (fun q => kf (Nat.not_le.mp (fun z => q ((nI_leI hb ha).mpr z))))
theorem kn_lt {o : Int} {a b : Nat} (hf : md_f M pc = some (.if_icmp .lt o, 3, n, x0, y0)) (ha : a < 2 ^ 31) (hb : b < 2 ^ 31) (kt : a < b → Ok g M R Z kc ks h x0 L st) (kf : b ≤ a → Ok g M R Z kc ks h n L st) : Ok g M R Z kc ks h pc L (.int (nI b) :: .int (nI a) :: st) := k_icmp_lt hf (fun q => kt ((nI_ltI ha hb).mp q)) (fun q => kf (Nat.not_lt.mp (fun z => q ((nI_ltI ha hb).mpr z))))
theorem kn_gt {o : Int} {a b : Nat} (hf : md_f M pc = some (.if_icmp .gt o, 3, n, x0, y0)) (ha : a < 2 ^ 31) (hb : b < 2 ^ 31) (kt : b < a → Ok g M R Z kc ks h x0 L st) (kf : a ≤ b → Ok g M R Z kc ks h n L st) : Ok g M R Z kc ks h pc L (.int (nI b) :: .int (nI a) :: st) := k_icmp_gt hf (fun q => kt ((nI_ltI hb ha).mp q)) (fun q => kf (Nat.not_lt.mp (fun z => q ((nI_ltI hb ha).mpr z))))
theorem kn_le {o : Int} {a b : Nat} (hf : md_f M pc = some (.if_icmp .le o, 3, n, x0, y0)) (ha : a < 2 ^ 31) (hb : b < 2 ^ 31) (kt : a ≤ b → Ok g M R Z kc ks h x0 L st) (kf : b < a → Ok g M R Z kc ks h n L st) : Ok g M R Z kc ks h pc L (.int (nI b) :: .int (nI a) :: st) := k_icmp_le hf (fun q => kt ((nI_leI ha hb).mp q)) (fun q => kf (Nat.not_le.mp (fun z => q ((nI_leI ha hb).mpr z))))
theorem kn_eq {o : Int} {a b : Nat} (hf : md_f M pc = some (.if_icmp .eq o, 3, n, x0, y0)) (ha : a < 2 ^ 31) (hb : b < 2 ^ 31) (kt : a = b → Ok g M R Z kc ks h x0 L st) (kf : a ≠ b → Ok g M R Z kc ks h n L st) : Ok g M R Z kc ks h pc L (.int (nI b) :: .int (nI a) :: st) := k_icmp_eq hf (fun q => kt ((nI_eq ha hb).mp q)) (fun q => kf (fun z => q ((nI_eq ha hb).mpr z)))
theorem kn_ne {o : Int} {a b : Nat} (hf : md_f M pc = some (.if_icmp .ne o, 3, n, x0, y0)) (ha : a < 2 ^ 31) (hb : b < 2 ^ 31) (kt : a ≠ b → Ok g M R Z kc ks h x0 L st) (kf : a = b → Ok g M R Z kc ks h n L st) : Ok g M R Z kc ks h pc L (.int (nI b) :: .int (nI a) :: st) := k_icmp_ne hf (fun q => kt (fun z => q ((nI_eq ha hb).mpr z))) (fun q => kf ((nI_eq ha hb).mp q))
/-- a truth value as the machine has it -/
def bI (b : Bool) : Int32 := cond b 1 0
theorem bI_nar (b : Bool) : narrow .boolean (.int (bI b)) = .int (bI b) := by cases b <;> rfl
theorem kb_eq {o : Int} {b : Bool} (hf : md_f M pc = some (.ifCond .eq o, 3, n, x0, y0)) (kt : b = false → Ok g M R Z kc ks h x0 L st) (kf : b = true → Ok g M R Z kc ks h n L st) : Ok g M R Z kc ks h pc L (.int (bI b) :: st) := by
  cases b with
  | false => exact k_if_eq hf (fun _ => kt rfl) (fun q => absurd rfl q)
  | true => exact k_if_eq hf (fun q => absurd q (by decide)) (fun _ => kf rfl)
theorem kb_ne {o : Int} {b : Bool} (hf : md_f M pc = some (.ifCond .ne o, 3, n, x0, y0)) (kt : b = true → Ok g M R Z kc ks h x0 L st) (kf : b = false → Ok g M R Z kc ks h n L st) : Ok g M R Z kc ks h pc L (.int (bI b) :: st) := by
  cases b with
  | false => exact k_if_ne hf (fun q => absurd rfl q) (fun _ => kf rfl)
  | true => exact k_if_ne hf (fun _ => kt rfl) (fun q => absurd q (by decide))
theorem hr0 {d maxL : Nat} (h : maxL ≤ 29) : rm_ok (rmd (d + 1) 0 0) d maxL := rm_d h
theorem Om_val {M : Md} {v : Value} {h1 : Hp} (k : Om g M d Q h1 pc L (v :: st)) : Om g M d Q h1 pc L (psh (some v) st) := k
theorem k_cS0 {idx : Nat} (hf : md_f M pc = some (.invokestatic idx, 3, n, x0, y0)) (hw : cl_S M1 0) (hk : Cond.methodLink (md_y M).cls idx (md_y M1) ∈ sg_tbl) (hm : md_n M1 ≤ 29) (hst : (st.map fun v => v.category).sum ≤ 8)
    (kk : Ct g M1 d 0 0 ([]) h (fun r h1 => Om g M (d + 1) Q h1 n L (psh r st))) : Om g M (d + 1) Q h pc L (st) := k_callS (As := []) (mc := 0) (ms := 0) hf rfl rfl hst (Nat.zero_le _) (Nat.zero_le _) (hr0 hm) hk hw kk
theorem k_cS1 {idx : Nat} {v0 : Value} (hf : md_f M pc = some (.invokestatic idx, 3, n, x0, y0)) (hw : cl_S M1 1) (hk : Cond.methodLink (md_y M).cls idx (md_y M1) ∈ sg_tbl) (hm : md_n M1 ≤ 29) (hst : (st.map fun v => v.category).sum ≤ 8)
    (kk : Ct g M1 d 0 0 ([v0]) h (fun r h1 => Om g M (d + 1) Q h1 n L (psh r st))) : Om g M (d + 1) Q h pc L (v0 :: st) := k_callS (As := [v0]) (mc := 0) (ms := 0) hf rfl rfl hst (Nat.zero_le _) (Nat.zero_le _) (hr0 hm) hk hw kk
theorem k_cS2 {idx : Nat} {v0 v1 : Value} (hf : md_f M pc = some (.invokestatic idx, 3, n, x0, y0)) (hw : cl_S M1 2) (hk : Cond.methodLink (md_y M).cls idx (md_y M1) ∈ sg_tbl) (hm : md_n M1 ≤ 29) (hst : (st.map fun v => v.category).sum ≤ 8)
    (kk : Ct g M1 d 0 0 ([v0, v1]) h (fun r h1 => Om g M (d + 1) Q h1 n L (psh r st))) : Om g M (d + 1) Q h pc L (v1 :: v0 :: st) := k_callS (As := [v0, v1]) (mc := 0) (ms := 0) hf rfl rfl hst (Nat.zero_le _) (Nat.zero_le _) (hr0 hm) hk hw kk
theorem k_cS3 {idx : Nat} {v0 v1 v2 : Value} (hf : md_f M pc = some (.invokestatic idx, 3, n, x0, y0)) (hw : cl_S M1 3) (hk : Cond.methodLink (md_y M).cls idx (md_y M1) ∈ sg_tbl) (hm : md_n M1 ≤ 29) (hst : (st.map fun v => v.category).sum ≤ 8)
    (kk : Ct g M1 d 0 0 ([v0, v1, v2]) h (fun r h1 => Om g M (d + 1) Q h1 n L (psh r st))) : Om g M (d + 1) Q h pc L (v2 :: v1 :: v0 :: st) := k_callS (As := [v0, v1, v2]) (mc := 0) (ms := 0) hf rfl rfl hst (Nat.zero_le _) (Nat.zero_le _) (hr0 hm) hk hw kk
theorem k_cS4 {idx : Nat} {v0 v1 v2 v3 : Value} (hf : md_f M pc = some (.invokestatic idx, 3, n, x0, y0)) (hw : cl_S M1 4) (hk : Cond.methodLink (md_y M).cls idx (md_y M1) ∈ sg_tbl) (hm : md_n M1 ≤ 29) (hst : (st.map fun v => v.category).sum ≤ 8)
    (kk : Ct g M1 d 0 0 ([v0, v1, v2, v3]) h (fun r h1 => Om g M (d + 1) Q h1 n L (psh r st))) : Om g M (d + 1) Q h pc L (v3 :: v2 :: v1 :: v0 :: st) := k_callS (As := [v0, v1, v2, v3]) (mc := 0) (ms := 0) hf rfl rfl hst (Nat.zero_le _) (Nat.zero_le _) (hr0 hm) hk hw kk
theorem k_cS5 {idx : Nat} {v0 v1 v2 v3 v4 : Value} (hf : md_f M pc = some (.invokestatic idx, 3, n, x0, y0)) (hw : cl_S M1 5) (hk : Cond.methodLink (md_y M).cls idx (md_y M1) ∈ sg_tbl) (hm : md_n M1 ≤ 29) (hst : (st.map fun v => v.category).sum ≤ 8)
    (kk : Ct g M1 d 0 0 ([v0, v1, v2, v3, v4]) h (fun r h1 => Om g M (d + 1) Q h1 n L (psh r st))) : Om g M (d + 1) Q h pc L (v4 :: v3 :: v2 :: v1 :: v0 :: st) := k_callS (As := [v0, v1, v2, v3, v4]) (mc := 0) (ms := 0) hf rfl rfl hst (Nat.zero_le _) (Nat.zero_le _) (hr0 hm) hk hw kk
theorem k_cS6 {idx : Nat} {v0 v1 v2 v3 v4 v5 : Value} (hf : md_f M pc = some (.invokestatic idx, 3, n, x0, y0)) (hw : cl_S M1 6) (hk : Cond.methodLink (md_y M).cls idx (md_y M1) ∈ sg_tbl) (hm : md_n M1 ≤ 29) (hst : (st.map fun v => v.category).sum ≤ 8)
    (kk : Ct g M1 d 0 0 ([v0, v1, v2, v3, v4, v5]) h (fun r h1 => Om g M (d + 1) Q h1 n L (psh r st))) : Om g M (d + 1) Q h pc L (v5 :: v4 :: v3 :: v2 :: v1 :: v0 :: st) := k_callS (As := [v0, v1, v2, v3, v4, v5]) (mc := 0) (ms := 0) hf rfl rfl hst (Nat.zero_le _) (Nat.zero_le _) (hr0 hm) hk hw kk
theorem k_cS7 {idx : Nat} {v0 v1 v2 v3 v4 v5 v6 : Value} (hf : md_f M pc = some (.invokestatic idx, 3, n, x0, y0)) (hw : cl_S M1 7) (hk : Cond.methodLink (md_y M).cls idx (md_y M1) ∈ sg_tbl) (hm : md_n M1 ≤ 29) (hst : (st.map fun v => v.category).sum ≤ 8)
    (kk : Ct g M1 d 0 0 ([v0, v1, v2, v3, v4, v5, v6]) h (fun r h1 => Om g M (d + 1) Q h1 n L (psh r st))) : Om g M (d + 1) Q h pc L (v6 :: v5 :: v4 :: v3 :: v2 :: v1 :: v0 :: st) := k_callS (As := [v0, v1, v2, v3, v4, v5, v6]) (mc := 0) (ms := 0) hf rfl rfl hst (Nat.zero_le _) (Nat.zero_le _) (hr0 hm) hk hw kk
theorem k_cSN0 {idx : Nat} (hf : md_f M pc = some (.invokestatic idx, 3, n, x0, y0)) (hw : cl_S M1 0) (hk : Cond.methodLinkNest (md_y M).cls idx (md_y M1) sg_host ∈ sg_nest) (hm : md_n M1 ≤ 29) (hst : (st.map fun v => v.category).sum ≤ 8)
    (kk : Ct g M1 d 0 0 ([]) h (fun r h1 => Om g M (d + 1) Q h1 n L (psh r st))) : Om g M (d + 1) Q h pc L (st) := k_callSN (As := []) (mc := 0) (ms := 0) hf rfl rfl hst (Nat.zero_le _) (Nat.zero_le _) (hr0 hm) hk hw kk
theorem k_cSN1 {idx : Nat} {v0 : Value} (hf : md_f M pc = some (.invokestatic idx, 3, n, x0, y0)) (hw : cl_S M1 1) (hk : Cond.methodLinkNest (md_y M).cls idx (md_y M1) sg_host ∈ sg_nest) (hm : md_n M1 ≤ 29) (hst : (st.map fun v => v.category).sum ≤ 8)
    (kk : Ct g M1 d 0 0 ([v0]) h (fun r h1 => Om g M (d + 1) Q h1 n L (psh r st))) : Om g M (d + 1) Q h pc L (v0 :: st) := k_callSN (As := [v0]) (mc := 0) (ms := 0) hf rfl rfl hst (Nat.zero_le _) (Nat.zero_le _) (hr0 hm) hk hw kk
theorem k_cSN2 {idx : Nat} {v0 v1 : Value} (hf : md_f M pc = some (.invokestatic idx, 3, n, x0, y0)) (hw : cl_S M1 2) (hk : Cond.methodLinkNest (md_y M).cls idx (md_y M1) sg_host ∈ sg_nest) (hm : md_n M1 ≤ 29) (hst : (st.map fun v => v.category).sum ≤ 8)
    (kk : Ct g M1 d 0 0 ([v0, v1]) h (fun r h1 => Om g M (d + 1) Q h1 n L (psh r st))) : Om g M (d + 1) Q h pc L (v1 :: v0 :: st) := k_callSN (As := [v0, v1]) (mc := 0) (ms := 0) hf rfl rfl hst (Nat.zero_le _) (Nat.zero_le _) (hr0 hm) hk hw kk
theorem k_cSN3 {idx : Nat} {v0 v1 v2 : Value} (hf : md_f M pc = some (.invokestatic idx, 3, n, x0, y0)) (hw : cl_S M1 3) (hk : Cond.methodLinkNest (md_y M).cls idx (md_y M1) sg_host ∈ sg_nest) (hm : md_n M1 ≤ 29) (hst : (st.map fun v => v.category).sum ≤ 8)
    (kk : Ct g M1 d 0 0 ([v0, v1, v2]) h (fun r h1 => Om g M (d + 1) Q h1 n L (psh r st))) : Om g M (d + 1) Q h pc L (v2 :: v1 :: v0 :: st) := k_callSN (As := [v0, v1, v2]) (mc := 0) (ms := 0) hf rfl rfl hst (Nat.zero_le _) (Nat.zero_le _) (hr0 hm) hk hw kk
theorem k_cSN4 {idx : Nat} {v0 v1 v2 v3 : Value} (hf : md_f M pc = some (.invokestatic idx, 3, n, x0, y0)) (hw : cl_S M1 4) (hk : Cond.methodLinkNest (md_y M).cls idx (md_y M1) sg_host ∈ sg_nest) (hm : md_n M1 ≤ 29) (hst : (st.map fun v => v.category).sum ≤ 8)
    (kk : Ct g M1 d 0 0 ([v0, v1, v2, v3]) h (fun r h1 => Om g M (d + 1) Q h1 n L (psh r st))) : Om g M (d + 1) Q h pc L (v3 :: v2 :: v1 :: v0 :: st) := k_callSN (As := [v0, v1, v2, v3]) (mc := 0) (ms := 0) hf rfl rfl hst (Nat.zero_le _) (Nat.zero_le _) (hr0 hm) hk hw kk
theorem k_cSN5 {idx : Nat} {v0 v1 v2 v3 v4 : Value} (hf : md_f M pc = some (.invokestatic idx, 3, n, x0, y0)) (hw : cl_S M1 5) (hk : Cond.methodLinkNest (md_y M).cls idx (md_y M1) sg_host ∈ sg_nest) (hm : md_n M1 ≤ 29) (hst : (st.map fun v => v.category).sum ≤ 8)
    (kk : Ct g M1 d 0 0 ([v0, v1, v2, v3, v4]) h (fun r h1 => Om g M (d + 1) Q h1 n L (psh r st))) : Om g M (d + 1) Q h pc L (v4 :: v3 :: v2 :: v1 :: v0 :: st) := k_callSN (As := [v0, v1, v2, v3, v4]) (mc := 0) (ms := 0) hf rfl rfl hst (Nat.zero_le _) (Nat.zero_le _) (hr0 hm) hk hw kk
theorem k_cSN6 {idx : Nat} {v0 v1 v2 v3 v4 v5 : Value} (hf : md_f M pc = some (.invokestatic idx, 3, n, x0, y0)) (hw : cl_S M1 6) (hk : Cond.methodLinkNest (md_y M).cls idx (md_y M1) sg_host ∈ sg_nest) (hm : md_n M1 ≤ 29) (hst : (st.map fun v => v.category).sum ≤ 8)
    (kk : Ct g M1 d 0 0 ([v0, v1, v2, v3, v4, v5]) h (fun r h1 => Om g M (d + 1) Q h1 n L (psh r st))) : Om g M (d + 1) Q h pc L (v5 :: v4 :: v3 :: v2 :: v1 :: v0 :: st) := k_callSN (As := [v0, v1, v2, v3, v4, v5]) (mc := 0) (ms := 0) hf rfl rfl hst (Nat.zero_le _) (Nat.zero_le _) (hr0 hm) hk hw kk
theorem k_cSN7 {idx : Nat} {v0 v1 v2 v3 v4 v5 v6 : Value} (hf : md_f M pc = some (.invokestatic idx, 3, n, x0, y0)) (hw : cl_S M1 7) (hk : Cond.methodLinkNest (md_y M).cls idx (md_y M1) sg_host ∈ sg_nest) (hm : md_n M1 ≤ 29) (hst : (st.map fun v => v.category).sum ≤ 8)
    (kk : Ct g M1 d 0 0 ([v0, v1, v2, v3, v4, v5, v6]) h (fun r h1 => Om g M (d + 1) Q h1 n L (psh r st))) : Om g M (d + 1) Q h pc L (v6 :: v5 :: v4 :: v3 :: v2 :: v1 :: v0 :: st) := k_callSN (As := [v0, v1, v2, v3, v4, v5, v6]) (mc := 0) (ms := 0) hf rfl rfl hst (Nat.zero_le _) (Nat.zero_le _) (hr0 hm) hk hw kk
theorem k_cV0 {idx : Nat} {b ci : Nat} (hf : md_f M pc = some (.invokevirtual idx, 3, n, x0, y0)) (hw : cl_V M1 0) (hk : Cond.methodLink (md_y M).cls idx (md_y M1) ∈ sg_tbl) (ho : isO g h b ci) (hc : sg_C ci = (md_y M1).cls) (hm : md_n M1 ≤ 29) (hst : (st.map fun v => v.category).sum ≤ 8)
    (kk : Ct g M1 d 0 0 (.ref b :: []) h (fun r h1 => Om g M (d + 1) Q h1 n L (psh r st))) : Om g M (d + 1) Q h pc L (.ref b :: st) := k_callV (As := []) (mc := 0) (ms := 0) hf rfl rfl hst (Nat.zero_le _) (Nat.zero_le _) (hr0 hm) hk hw ho hc kk
theorem k_cV1 {idx : Nat} {v0 : Value} {b ci : Nat} (hf : md_f M pc = some (.invokevirtual idx, 3, n, x0, y0)) (hw : cl_V M1 1) (hk : Cond.methodLink (md_y M).cls idx (md_y M1) ∈ sg_tbl) (ho : isO g h b ci) (hc : sg_C ci = (md_y M1).cls) (hm : md_n M1 ≤ 29) (hst : (st.map fun v => v.category).sum ≤ 8)
    (kk : Ct g M1 d 0 0 (.ref b :: [v0]) h (fun r h1 => Om g M (d + 1) Q h1 n L (psh r st))) : Om g M (d + 1) Q h pc L (v0 :: .ref b :: st) := k_callV (As := [v0]) (mc := 0) (ms := 0) hf rfl rfl hst (Nat.zero_le _) (Nat.zero_le _) (hr0 hm) hk hw ho hc kk
theorem k_cV2 {idx : Nat} {v0 v1 : Value} {b ci : Nat} (hf : md_f M pc = some (.invokevirtual idx, 3, n, x0, y0)) (hw : cl_V M1 2) (hk : Cond.methodLink (md_y M).cls idx (md_y M1) ∈ sg_tbl) (ho : isO g h b ci) (hc : sg_C ci = (md_y M1).cls) (hm : md_n M1 ≤ 29) (hst : (st.map fun v => v.category).sum ≤ 8)
    (kk : Ct g M1 d 0 0 (.ref b :: [v0, v1]) h (fun r h1 => Om g M (d + 1) Q h1 n L (psh r st))) : Om g M (d + 1) Q h pc L (v1 :: v0 :: .ref b :: st) := k_callV (As := [v0, v1]) (mc := 0) (ms := 0) hf rfl rfl hst (Nat.zero_le _) (Nat.zero_le _) (hr0 hm) hk hw ho hc kk
theorem k_cV3 {idx : Nat} {v0 v1 v2 : Value} {b ci : Nat} (hf : md_f M pc = some (.invokevirtual idx, 3, n, x0, y0)) (hw : cl_V M1 3) (hk : Cond.methodLink (md_y M).cls idx (md_y M1) ∈ sg_tbl) (ho : isO g h b ci) (hc : sg_C ci = (md_y M1).cls) (hm : md_n M1 ≤ 29) (hst : (st.map fun v => v.category).sum ≤ 8)
    (kk : Ct g M1 d 0 0 (.ref b :: [v0, v1, v2]) h (fun r h1 => Om g M (d + 1) Q h1 n L (psh r st))) : Om g M (d + 1) Q h pc L (v2 :: v1 :: v0 :: .ref b :: st) := k_callV (As := [v0, v1, v2]) (mc := 0) (ms := 0) hf rfl rfl hst (Nat.zero_le _) (Nat.zero_le _) (hr0 hm) hk hw ho hc kk
theorem k_cV4 {idx : Nat} {v0 v1 v2 v3 : Value} {b ci : Nat} (hf : md_f M pc = some (.invokevirtual idx, 3, n, x0, y0)) (hw : cl_V M1 4) (hk : Cond.methodLink (md_y M).cls idx (md_y M1) ∈ sg_tbl) (ho : isO g h b ci) (hc : sg_C ci = (md_y M1).cls) (hm : md_n M1 ≤ 29) (hst : (st.map fun v => v.category).sum ≤ 8)
    (kk : Ct g M1 d 0 0 (.ref b :: [v0, v1, v2, v3]) h (fun r h1 => Om g M (d + 1) Q h1 n L (psh r st))) : Om g M (d + 1) Q h pc L (v3 :: v2 :: v1 :: v0 :: .ref b :: st) := k_callV (As := [v0, v1, v2, v3]) (mc := 0) (ms := 0) hf rfl rfl hst (Nat.zero_le _) (Nat.zero_le _) (hr0 hm) hk hw ho hc kk
theorem k_cV5 {idx : Nat} {v0 v1 v2 v3 v4 : Value} {b ci : Nat} (hf : md_f M pc = some (.invokevirtual idx, 3, n, x0, y0)) (hw : cl_V M1 5) (hk : Cond.methodLink (md_y M).cls idx (md_y M1) ∈ sg_tbl) (ho : isO g h b ci) (hc : sg_C ci = (md_y M1).cls) (hm : md_n M1 ≤ 29) (hst : (st.map fun v => v.category).sum ≤ 8)
    (kk : Ct g M1 d 0 0 (.ref b :: [v0, v1, v2, v3, v4]) h (fun r h1 => Om g M (d + 1) Q h1 n L (psh r st))) : Om g M (d + 1) Q h pc L (v4 :: v3 :: v2 :: v1 :: v0 :: .ref b :: st) := k_callV (As := [v0, v1, v2, v3, v4]) (mc := 0) (ms := 0) hf rfl rfl hst (Nat.zero_le _) (Nat.zero_le _) (hr0 hm) hk hw ho hc kk
theorem k_cV6 {idx : Nat} {v0 v1 v2 v3 v4 v5 : Value} {b ci : Nat} (hf : md_f M pc = some (.invokevirtual idx, 3, n, x0, y0)) (hw : cl_V M1 6) (hk : Cond.methodLink (md_y M).cls idx (md_y M1) ∈ sg_tbl) (ho : isO g h b ci) (hc : sg_C ci = (md_y M1).cls) (hm : md_n M1 ≤ 29) (hst : (st.map fun v => v.category).sum ≤ 8)
    (kk : Ct g M1 d 0 0 (.ref b :: [v0, v1, v2, v3, v4, v5]) h (fun r h1 => Om g M (d + 1) Q h1 n L (psh r st))) : Om g M (d + 1) Q h pc L (v5 :: v4 :: v3 :: v2 :: v1 :: v0 :: .ref b :: st) := k_callV (As := [v0, v1, v2, v3, v4, v5]) (mc := 0) (ms := 0) hf rfl rfl hst (Nat.zero_le _) (Nat.zero_le _) (hr0 hm) hk hw ho hc kk
theorem k_cV7 {idx : Nat} {v0 v1 v2 v3 v4 v5 v6 : Value} {b ci : Nat} (hf : md_f M pc = some (.invokevirtual idx, 3, n, x0, y0)) (hw : cl_V M1 7) (hk : Cond.methodLink (md_y M).cls idx (md_y M1) ∈ sg_tbl) (ho : isO g h b ci) (hc : sg_C ci = (md_y M1).cls) (hm : md_n M1 ≤ 29) (hst : (st.map fun v => v.category).sum ≤ 8)
    (kk : Ct g M1 d 0 0 (.ref b :: [v0, v1, v2, v3, v4, v5, v6]) h (fun r h1 => Om g M (d + 1) Q h1 n L (psh r st))) : Om g M (d + 1) Q h pc L (v6 :: v5 :: v4 :: v3 :: v2 :: v1 :: v0 :: .ref b :: st) := k_callV (As := [v0, v1, v2, v3, v4, v5, v6]) (mc := 0) (ms := 0) hf rfl rfl hst (Nat.zero_le _) (Nat.zero_le _) (hr0 hm) hk hw ho hc kk
theorem k_cVN0 {idx : Nat} {b ci : Nat} (hf : md_f M pc = some (.invokevirtual idx, 3, n, x0, y0)) (hw : cl_V M1 0) (hk : Cond.methodLinkNest (md_y M).cls idx (md_y M1) sg_host ∈ sg_nest) (ho : isO g h b ci) (hc : sg_C ci = (md_y M1).cls) (hm : md_n M1 ≤ 29) (hst : (st.map fun v => v.category).sum ≤ 8)
    (kk : Ct g M1 d 0 0 (.ref b :: []) h (fun r h1 => Om g M (d + 1) Q h1 n L (psh r st))) : Om g M (d + 1) Q h pc L (.ref b :: st) := k_callVN (As := []) (mc := 0) (ms := 0) hf rfl rfl hst (Nat.zero_le _) (Nat.zero_le _) (hr0 hm) hk hw ho hc kk
theorem k_cVN1 {idx : Nat} {v0 : Value} {b ci : Nat} (hf : md_f M pc = some (.invokevirtual idx, 3, n, x0, y0)) (hw : cl_V M1 1) (hk : Cond.methodLinkNest (md_y M).cls idx (md_y M1) sg_host ∈ sg_nest) (ho : isO g h b ci) (hc : sg_C ci = (md_y M1).cls) (hm : md_n M1 ≤ 29) (hst : (st.map fun v => v.category).sum ≤ 8)
    (kk : Ct g M1 d 0 0 (.ref b :: [v0]) h (fun r h1 => Om g M (d + 1) Q h1 n L (psh r st))) : Om g M (d + 1) Q h pc L (v0 :: .ref b :: st) := k_callVN (As := [v0]) (mc := 0) (ms := 0) hf rfl rfl hst (Nat.zero_le _) (Nat.zero_le _) (hr0 hm) hk hw ho hc kk
theorem k_cVN2 {idx : Nat} {v0 v1 : Value} {b ci : Nat} (hf : md_f M pc = some (.invokevirtual idx, 3, n, x0, y0)) (hw : cl_V M1 2) (hk : Cond.methodLinkNest (md_y M).cls idx (md_y M1) sg_host ∈ sg_nest) (ho : isO g h b ci) (hc : sg_C ci = (md_y M1).cls) (hm : md_n M1 ≤ 29) (hst : (st.map fun v => v.category).sum ≤ 8)
    (kk : Ct g M1 d 0 0 (.ref b :: [v0, v1]) h (fun r h1 => Om g M (d + 1) Q h1 n L (psh r st))) : Om g M (d + 1) Q h pc L (v1 :: v0 :: .ref b :: st) := k_callVN (As := [v0, v1]) (mc := 0) (ms := 0) hf rfl rfl hst (Nat.zero_le _) (Nat.zero_le _) (hr0 hm) hk hw ho hc kk
theorem k_cVN3 {idx : Nat} {v0 v1 v2 : Value} {b ci : Nat} (hf : md_f M pc = some (.invokevirtual idx, 3, n, x0, y0)) (hw : cl_V M1 3) (hk : Cond.methodLinkNest (md_y M).cls idx (md_y M1) sg_host ∈ sg_nest) (ho : isO g h b ci) (hc : sg_C ci = (md_y M1).cls) (hm : md_n M1 ≤ 29) (hst : (st.map fun v => v.category).sum ≤ 8)
    (kk : Ct g M1 d 0 0 (.ref b :: [v0, v1, v2]) h (fun r h1 => Om g M (d + 1) Q h1 n L (psh r st))) : Om g M (d + 1) Q h pc L (v2 :: v1 :: v0 :: .ref b :: st) := k_callVN (As := [v0, v1, v2]) (mc := 0) (ms := 0) hf rfl rfl hst (Nat.zero_le _) (Nat.zero_le _) (hr0 hm) hk hw ho hc kk
theorem k_cVN4 {idx : Nat} {v0 v1 v2 v3 : Value} {b ci : Nat} (hf : md_f M pc = some (.invokevirtual idx, 3, n, x0, y0)) (hw : cl_V M1 4) (hk : Cond.methodLinkNest (md_y M).cls idx (md_y M1) sg_host ∈ sg_nest) (ho : isO g h b ci) (hc : sg_C ci = (md_y M1).cls) (hm : md_n M1 ≤ 29) (hst : (st.map fun v => v.category).sum ≤ 8)
    (kk : Ct g M1 d 0 0 (.ref b :: [v0, v1, v2, v3]) h (fun r h1 => Om g M (d + 1) Q h1 n L (psh r st))) : Om g M (d + 1) Q h pc L (v3 :: v2 :: v1 :: v0 :: .ref b :: st) := k_callVN (As := [v0, v1, v2, v3]) (mc := 0) (ms := 0) hf rfl rfl hst (Nat.zero_le _) (Nat.zero_le _) (hr0 hm) hk hw ho hc kk
theorem k_cVN5 {idx : Nat} {v0 v1 v2 v3 v4 : Value} {b ci : Nat} (hf : md_f M pc = some (.invokevirtual idx, 3, n, x0, y0)) (hw : cl_V M1 5) (hk : Cond.methodLinkNest (md_y M).cls idx (md_y M1) sg_host ∈ sg_nest) (ho : isO g h b ci) (hc : sg_C ci = (md_y M1).cls) (hm : md_n M1 ≤ 29) (hst : (st.map fun v => v.category).sum ≤ 8)
    (kk : Ct g M1 d 0 0 (.ref b :: [v0, v1, v2, v3, v4]) h (fun r h1 => Om g M (d + 1) Q h1 n L (psh r st))) : Om g M (d + 1) Q h pc L (v4 :: v3 :: v2 :: v1 :: v0 :: .ref b :: st) := k_callVN (As := [v0, v1, v2, v3, v4]) (mc := 0) (ms := 0) hf rfl rfl hst (Nat.zero_le _) (Nat.zero_le _) (hr0 hm) hk hw ho hc kk
theorem k_cVN6 {idx : Nat} {v0 v1 v2 v3 v4 v5 : Value} {b ci : Nat} (hf : md_f M pc = some (.invokevirtual idx, 3, n, x0, y0)) (hw : cl_V M1 6) (hk : Cond.methodLinkNest (md_y M).cls idx (md_y M1) sg_host ∈ sg_nest) (ho : isO g h b ci) (hc : sg_C ci = (md_y M1).cls) (hm : md_n M1 ≤ 29) (hst : (st.map fun v => v.category).sum ≤ 8)
    (kk : Ct g M1 d 0 0 (.ref b :: [v0, v1, v2, v3, v4, v5]) h (fun r h1 => Om g M (d + 1) Q h1 n L (psh r st))) : Om g M (d + 1) Q h pc L (v5 :: v4 :: v3 :: v2 :: v1 :: v0 :: .ref b :: st) := k_callVN (As := [v0, v1, v2, v3, v4, v5]) (mc := 0) (ms := 0) hf rfl rfl hst (Nat.zero_le _) (Nat.zero_le _) (hr0 hm) hk hw ho hc kk
theorem k_cVN7 {idx : Nat} {v0 v1 v2 v3 v4 v5 v6 : Value} {b ci : Nat} (hf : md_f M pc = some (.invokevirtual idx, 3, n, x0, y0)) (hw : cl_V M1 7) (hk : Cond.methodLinkNest (md_y M).cls idx (md_y M1) sg_host ∈ sg_nest) (ho : isO g h b ci) (hc : sg_C ci = (md_y M1).cls) (hm : md_n M1 ≤ 29) (hst : (st.map fun v => v.category).sum ≤ 8)
    (kk : Ct g M1 d 0 0 (.ref b :: [v0, v1, v2, v3, v4, v5, v6]) h (fun r h1 => Om g M (d + 1) Q h1 n L (psh r st))) : Om g M (d + 1) Q h pc L (v6 :: v5 :: v4 :: v3 :: v2 :: v1 :: v0 :: .ref b :: st) := k_callVN (As := [v0, v1, v2, v3, v4, v5, v6]) (mc := 0) (ms := 0) hf rfl rfl hst (Nat.zero_le _) (Nat.zero_le _) (hr0 hm) hk hw ho hc kk
end MORE
/-! FRAMES: nothing but cells in P has changed -/
def hp_fr (P : Nat → Prop) (h h1 : Hp) : Prop := hp_n h1 = hp_n h ∧ hp_k h1 = hp_k h ∧ hp_l h1 = hp_l h ∧ ∀ a, ¬ P a → (∀ j, hp_i h1 a j = hp_i h a j) ∧ (∀ j, hp_j h1 a j = hp_j h a j) ∧ ∀ j, hp_r h1 a j = hp_r h a j
theorem fr_rf {P : Nat → Prop} {h : Hp} : hp_fr P h h := ⟨rfl, rfl, rfl, fun _ _ => ⟨fun _ => rfl, fun _ => rfl, fun _ => rfl⟩⟩
theorem fr_tr {P : Nat → Prop} {h h1 h2 : Hp} (x : hp_fr P h h1) (y : hp_fr P h1 h2) : hp_fr P h h2 :=
  ⟨y.1.trans x.1, y.2.1.trans x.2.1, y.2.2.1.trans x.2.2.1, fun a ha => ⟨fun j => ((y.2.2.2 a ha).1 j).trans ((x.2.2.2 a ha).1 j), fun j => ((y.2.2.2 a ha).2.1 j).trans ((x.2.2.2 a ha).2.1 j), fun j => ((y.2.2.2 a ha).2.2 j).trans ((x.2.2.2 a ha).2.2 j)⟩⟩
theorem fr_mono {P P1 : Nat → Prop} {h h1 : Hp} (x : hp_fr P h h1) (e : ∀ a, P a → P1 a) : hp_fr P1 h h1 := ⟨x.1, x.2.1, x.2.2.1, fun a ha => x.2.2.2 a (fun z => ha (e a z))⟩
theorem fr_i {P : Nat → Prop} {h h1 : Hp} (x : hp_fr P h h1) {a : Nat} (ha : ¬ P a) (j : Nat) : hp_i h1 a j = hp_i h a j := (x.2.2.2 a ha).1 j
theorem fr_j {P : Nat → Prop} {h h1 : Hp} (x : hp_fr P h h1) {a : Nat} (ha : ¬ P a) (j : Nat) : hp_j h1 a j = hp_j h a j := (x.2.2.2 a ha).2.1 j
theorem fr_r {P : Nat → Prop} {h h1 : Hp} (x : hp_fr P h h1) {a : Nat} (ha : ¬ P a) (j : Nat) : hp_r h1 a j = hp_r h a j := (x.2.2.2 a ha).2.2 j
theorem fr_ui {P : Nat → Prop} {h : Hp} {a k : Nat} {x : Int32} (ha : P a) : hp_fr P h (hp_ui h a k x) := ⟨rfl, rfl, rfl, fun _ hb => ⟨fun _ => up2_a (fun e => hb (e ▸ ha)), fun _ => rfl, fun _ => rfl⟩⟩
theorem fr_uj {P : Nat → Prop} {h : Hp} {a k : Nat} {x : Int64} (ha : P a) : hp_fr P h (hp_uj h a k x) := ⟨rfl, rfl, rfl, fun _ hb => ⟨fun _ => rfl, fun _ => up2_a (fun e => hb (e ▸ ha)), fun _ => rfl⟩⟩
theorem fr_ur {P : Nat → Prop} {h : Hp} {a k : Nat} {x : Option Nat} (ha : P a) : hp_fr P h (hp_ur h a k x) := ⟨rfl, rfl, rfl, fun _ hb => ⟨fun _ => rfl, fun _ => rfl, fun _ => up2_a (fun e => hb (e ▸ ha))⟩⟩
theorem fr_O {P : Nat → Prop} {g : Gx} {h h1 : Hp} {a c : Nat} (x : hp_fr P h h1) (o : isO g h a c) : isO g h1 a c := ⟨o.1, by rw [x.1]; exact o.2.1, by rw [x.2.1]; exact o.2.2⟩
theorem fr_A {P : Nat → Prop} {g : Gx} {h h1 : Hp} {a t l : Nat} (x : hp_fr P h h1) (o : isA g h a t l) : isA g h1 a t l := ⟨o.1, by rw [x.1]; exact o.2.1, by rw [x.2.1]; exact o.2.2.1, by rw [x.2.2.1]; exact o.2.2.2⟩
theorem i_ui {h : Hp} {a k b j : Nat} {x : Int32} : hp_i (hp_ui h a k x) b j = if b = a ∧ j = k then x else hp_i h b j := rfl
theorem j_ui {h : Hp} {a k : Nat} {x : Int32} : hp_j (hp_ui h a k x) = hp_j h := rfl
theorem r_ui {h : Hp} {a k : Nat} {x : Int32} : hp_r (hp_ui h a k x) = hp_r h := rfl
theorem j_uj {h : Hp} {a k b j : Nat} {x : Int64} : hp_j (hp_uj h a k x) b j = if b = a ∧ j = k then x else hp_j h b j := rfl
theorem i_uj {h : Hp} {a k : Nat} {x : Int64} : hp_i (hp_uj h a k x) = hp_i h := rfl
theorem r_uj {h : Hp} {a k : Nat} {x : Int64} : hp_r (hp_uj h a k x) = hp_r h := rfl
theorem r_ur {h : Hp} {a k b j : Nat} {x : Option Nat} : hp_r (hp_ur h a k x) b j = if b = a ∧ j = k then x else hp_r h b j := rfl
theorem i_ur {h : Hp} {a k : Nat} {x : Option Nat} : hp_i (hp_ur h a k x) = hp_i h := rfl
theorem j_ur {h : Hp} {a k : Nat} {x : Option Nat} : hp_j (hp_ur h a k x) = hp_j h := rfl
end
section
section VALS
variable {g : Gx} {M : Md} {R : Room} {Z : Zx} {kc ks : Nat} {h : Hp} {pc : Nat} {L : List (Option Value)} {st : List Value} {n x0 y0 : Nat}
theorem k_gI {idx ci k a : Nat} {x : Int32} (hf : md_f M pc = some (.getfield idx, 3, n, ci, k)) (ht : ty_I (sg_ft ci k) = true) (ho : isO g h a ci) (hv : hp_i h a k = x) (kk : Ok g M R Z kc ks h n L (.int x :: st)) : Ok g M R Z kc ks h pc L (.ref a :: st) := k_getI hf ht ho (by rw [hv]; exact kk)
theorem k_gL {idx ci k a : Nat} {x : Int64} (hf : md_f M pc = some (.getfield idx, 3, n, ci, k)) (ht : sg_ft ci k = .long) (ho : isO g h a ci) (hv : hp_j h a k = x) (kk : Ok g M R Z kc ks h n L (.long x :: st)) : Ok g M R Z kc ks h pc L (.ref a :: st) := k_getL hf ht ho (by rw [hv]; exact kk)
theorem k_iA {a len j : Nat} {i x : Int32} (hf : md_f M pc = some (.iaload, 1, n, x0, y0)) (ho : isA g h a 0 len) (hi : i = nI j) (hj : j < len) (hlen : len < 2147483648) (hv : hp_i h a j = x) (kk : Ok g M R Z kc ks h n L (.int x :: st)) : Ok g M R Z kc ks h pc L (.int i :: .ref a :: st) := k_iald hf ho rfl (by decide) hi hj hlen (by rw [hv]; exact kk)
theorem k_zA {a len j : Nat} {i x : Int32} (hf : md_f M pc = some (.baload, 1, n, x0, y0)) (ho : isA g h a 2 len) (hi : i = nI j) (hj : j < len) (hlen : len < 2147483648) (hv : hp_i h a j = x) (kk : Ok g M R Z kc ks h n L (.int x :: st)) : Ok g M R Z kc ks h pc L (.int i :: .ref a :: st) := k_zald hf ho rfl (by decide) hi hj hlen (by rw [hv]; exact kk)
theorem k_lA {a len j : Nat} {i : Int32} {x : Int64} (hf : md_f M pc = some (.laload, 1, n, x0, y0)) (ho : isA g h a 1 len) (hi : i = nI j) (hj : j < len) (hlen : len < 2147483648) (hv : hp_j h a j = x) (kk : Ok g M R Z kc ks h n L (.long x :: st)) : Ok g M R Z kc ks h pc L (.int i :: .ref a :: st) := k_lald hf ho rfl (by decide) hi hj hlen (by rw [hv]; exact kk)
theorem k_iS {a len j : Nat} {i x : Int32} (hf : md_f M pc = some (.iastore, 1, n, x0, y0)) (ho : isA g h a 0 len) (hi : i = nI j) (hj : j < len) (hlen : len < 2147483648) (kk : Ok g M R Z kc ks (hp_ui h a j x) n L st) : Ok g M R Z kc ks h pc L (.int x :: .int i :: .ref a :: st) := k_iast hf ho rfl (by decide) hi hj hlen kk
theorem k_zS {a len j : Nat} {i x : Int32} (hf : md_f M pc = some (.bastore, 1, n, x0, y0)) (ho : isA g h a 2 len) (hi : i = nI j) (hj : j < len) (hlen : len < 2147483648) (hx : narrow .boolean (.int x) = .int x) (kk : Ok g M R Z kc ks (hp_ui h a j x) n L st) : Ok g M R Z kc ks h pc L (.int x :: .int i :: .ref a :: st) := k_zast hf ho rfl (by decide) hi hj hlen hx kk
theorem k_lS {a len j : Nat} {i : Int32} {x : Int64} (hf : md_f M pc = some (.lastore, 1, n, x0, y0)) (ho : isA g h a 1 len) (hi : i = nI j) (hj : j < len) (hlen : len < 2147483648) (kk : Ok g M R Z kc ks (hp_uj h a j x) n L st) : Ok g M R Z kc ks h pc L (.long x :: .int i :: .ref a :: st) := k_last hf ho rfl (by decide) hi hj hlen kk
/-- the script's own ints, its length -/
theorem k_sld {j : Nat} {i : Int32} (hf : md_f M pc = some (.iaload, 1, n, x0, y0)) (hi : i = nI j) (hj : j < gx_L g) (hL : gx_L g < 2147483648) (kk : Ok g M R Z kc ks h n L (.int (gx_x g j) :: st)) : Ok g M R Z kc ks h pc L (.int i :: .ref (gx_b g) :: st) := by
  intro p e s m args below meth c H locs ls C hW hF hl
  obtain ⟨hd, hn, -⟩ := md_dec C.2.2.2.2.2.2.2.2.2.2 hf
  subst hn
  obtain ⟨scr, h1, h2, h3, h4, h5⟩ := C.2.2.2.2.2.2.2.1.2.2.2
  have hb : gx_b g < gx_B g := (Array.getElem?_eq_some_iff.mp h1).1
  have hc := ix_cl hi hj hL
  exact W.iald (v := .int (gx_x g j)) C.1 C.2.1 (by rw [hW.2.2.1 _ hb]; exact h1) h2 h3 (by rw [h4]; exact ix_in hi hj hL) (by rw [hc]; exact h5 j hj) rfl rfl hd (kk p e s m args below meth c H locs ls C hW hF hl)
theorem k_slen (hf : md_f M pc = some (.arraylength, 1, n, x0, y0)) (kk : Ok g M R Z kc ks h n L (.int (nI (gx_L g)) :: st)) : Ok g M R Z kc ks h pc L (.ref (gx_b g) :: st) := by
  intro p e s m args below meth c H locs ls C hW hF hl
  obtain ⟨hd, hn, -⟩ := md_dec C.2.2.2.2.2.2.2.2.2.2 hf
  subst hn
  obtain ⟨scr, h1, h2, h3, h4, h5⟩ := C.2.2.2.2.2.2.2.1.2.2.2
  have hb : gx_b g < gx_B g := (Array.getElem?_eq_some_iff.mp h1).1
  exact W.alen (n := Int32.ofNat (gx_L g)) C.1 C.2.1 (by rw [hW.2.2.1 _ hb]; exact h1) h2 (by rw [h4] <;> rfl) rfl rfl hd (kk p e s m args below meth c H locs ls C hW hF hl)
end VALS
end
section
section NUMS
variable {g : Gx} {M : Md} {R : Room} {Z : Zx} {kc ks : Nat} {h : Hp} {pc : Nat} {L : List (Option Value)} {st : List Value} {n x0 y0 : Nat}
theorem k_iaddN {a b : Nat} (hf : md_f M pc = some (.iadd, 1, n, x0, y0)) (k : Ok g M R Z kc ks h n L (.int (nI (a + b)) :: st)) : Ok g M R Z kc ks h pc L (.int (nI b) :: .int (nI a) :: st) := k_iadd hf (by rw [nI_add a b]; exact k)
theorem k_imulN {a b : Nat} (hf : md_f M pc = some (.imul, 1, n, x0, y0)) (k : Ok g M R Z kc ks h n L (.int (nI (a * b)) :: st)) : Ok g M R Z kc ks h pc L (.int (nI b) :: .int (nI a) :: st) := k_imul hf (by rw [pk_mul a b]; exact k)
theorem k_isubN {a b : Nat} (hf : md_f M pc = some (.isub, 1, n, x0, y0)) (hb : b ≤ a) (k : Ok g M R Z kc ks h n L (.int (nI (a - b)) :: st)) : Ok g M R Z kc ks h pc L (.int (nI b) :: .int (nI a) :: st) := k_isub hf (by rw [pk_sub hb]; exact k)
theorem ine0 {b : Nat} (h0 : 0 < b) (hb : b < 2 ^ 31) : ¬ nI b = 0 := fun e => by
  have h1 : nI b = nI 0 := e
  exact absurd ((nI_eq hb (by decide)).mp h1) (by omega)
theorem k_idivN {a b : Nat} (hf : md_f M pc = some (.idiv, 1, n, x0, y0)) (ha : a < 2 ^ 31) (h0 : 0 < b) (hb : b < 2 ^ 31) (k : Ok g M R Z kc ks h n L (.int (nI (a / b)) :: st)) : Ok g M R Z kc ks h pc L (.int (nI b) :: .int (nI a) :: st) := k_idiv hf (ine0 h0 hb) (by rw [pk_div ha h0 hb]; exact k)
theorem k_iremN {a b : Nat} (hf : md_f M pc = some (.irem, 1, n, x0, y0)) (ha : a < 2 ^ 31) (h0 : 0 < b) (hb : b < 2 ^ 31) (k : Ok g M R Z kc ks h n L (.int (nI (a % b)) :: st)) : Ok g M R Z kc ks h pc L (.int (nI b) :: .int (nI a) :: st) := k_irem hf (ine0 h0 hb) (by rw [pk_rem ha h0 hb]; exact k)
theorem k_laddN {a b : Nat} (hf : md_f M pc = some (.ladd, 1, n, x0, y0)) (k : Ok g M R Z kc ks h n L (.long (lN (a + b)) :: st)) : Ok g M R Z kc ks h pc L (.long (lN b) :: .long (lN a) :: st) := k_ladd hf (by rw [lN_add a b]; exact k)
theorem k_lmulN {a b : Nat} (hf : md_f M pc = some (.lmul, 1, n, x0, y0)) (k : Ok g M R Z kc ks h n L (.long (lN (a * b)) :: st)) : Ok g M R Z kc ks h pc L (.long (lN b) :: .long (lN a) :: st) := k_lmul hf (by rw [lN_mul a b]; exact k)
theorem k_lsubN {a b : Nat} (hf : md_f M pc = some (.lsub, 1, n, x0, y0)) (hb : b ≤ a) (k : Ok g M R Z kc ks h n L (.long (lN (a - b)) :: st)) : Ok g M R Z kc ks h pc L (.long (lN b) :: .long (lN a) :: st) := k_lsub hf (by rw [lN_sub hb]; exact k)
theorem lne0 {b : Nat} (h0 : 0 < b) (hb : b < 2 ^ 63) : ¬ lN b = 0 := fun e => by
  have h1 : lN b = lN 0 := e
  exact absurd ((pk_lEQ hb (by decide)).mp h1) (by omega)
theorem k_ldivN {a b : Nat} (hf : md_f M pc = some (.ldiv, 1, n, x0, y0)) (ha : a < 2 ^ 63) (h0 : 0 < b) (hb : b < 2 ^ 63) (k : Ok g M R Z kc ks h n L (.long (lN (a / b)) :: st)) : Ok g M R Z kc ks h pc L (.long (lN b) :: .long (lN a) :: st) := k_ldiv hf (lne0 h0 hb) (by rw [pk_lDiv ha h0 hb]; exact k)
theorem k_lremN {a b : Nat} (hf : md_f M pc = some (.lrem, 1, n, x0, y0)) (ha : a < 2 ^ 63) (h0 : 0 < b) (hb : b < 2 ^ 63) (k : Ok g M R Z kc ks h n L (.long (lN (a % b)) :: st)) : Ok g M R Z kc ks h pc L (.long (lN b) :: .long (lN a) :: st) := k_lrem hf (lne0 h0 hb) (by rw [pk_lRem ha h0 hb]; exact k)
theorem k_i2lN {a : Nat} (hf : md_f M pc = some (.i2l, 1, n, x0, y0)) (ha : a < 2 ^ 31) (k : Ok g M R Z kc ks h n L (.long (lN a) :: st)) : Ok g M R Z kc ks h pc L (.int (nI a) :: st) := k_i2l hf (by rw [nI_l ha]; exact k)
theorem k_l2iN {a : Nat} (hf : md_f M pc = some (.l2i, 1, n, x0, y0)) (k : Ok g M R Z kc ks h n L (.int (nI a) :: st)) : Ok g M R Z kc ks h pc L (.long (lN a) :: st) := k_l2i hf (by rw [lN_i]; exact k)
theorem kl_le {n1 z0 z1 : Nat} {o : Int} {x y : Int64} (hf : md_f M pc = some (.lcmp, 1, n1, z0, z1)) (hf2 : md_f M n1 = some (.ifCond .le o, 3, n, x0, y0)) (kt : x ≤ y → Ok g M R Z kc ks h x0 L st) (kf : ¬ (x ≤ y) → Ok g M R Z kc ks h n L st) : Ok g M R Z kc ks h pc L (.long y :: .long x :: st) := k_lcmp hf (k_if_le hf2 (fun q => kt ((lg_cmp_le x y).mp q)) (fun q => kf (fun z => q ((lg_cmp_le x y).mpr z))))
theorem klN_le {n1 z0 z1 : Nat} {o : Int} {a b : Nat} (hf : md_f M pc = some (.lcmp, 1, n1, z0, z1)) (hf2 : md_f M n1 = some (.ifCond .le o, 3, n, x0, y0)) (ha : a < 2 ^ 63) (hb : b < 2 ^ 63) (kt : a ≤ b → Ok g M R Z kc ks h x0 L st) (kf : b < a → Ok g M R Z kc ks h n L st) : Ok g M R Z kc ks h pc L (.long (lN b) :: .long (lN a) :: st) := kl_le hf hf2 (fun q => kt ((pk_lLE ha hb).mp q)) (fun q => kf (Nat.not_le.mp (fun z => q ((pk_lLE ha hb).mpr z))))
theorem kl_lt {n1 z0 z1 : Nat} {o : Int} {x y : Int64} (hf : md_f M pc = some (.lcmp, 1, n1, z0, z1)) (hf2 : md_f M n1 = some (.ifCond .lt o, 3, n, x0, y0)) (kt : x < y → Ok g M R Z kc ks h x0 L st) (kf : ¬ (x < y) → Ok g M R Z kc ks h n L st) : Ok g M R Z kc ks h pc L (.long y :: .long x :: st) := k_lcmp hf (k_if_lt hf2 (fun q => kt ((lg_cmp_lt x y).mp q)) (fun q => kf (fun z => q ((lg_cmp_lt x y).mpr z))))
theorem klN_lt {n1 z0 z1 : Nat} {o : Int} {a b : Nat} (hf : md_f M pc = some (.lcmp, 1, n1, z0, z1)) (hf2 : md_f M n1 = some (.ifCond .lt o, 3, n, x0, y0)) (ha : a < 2 ^ 63) (hb : b < 2 ^ 63) (kt : a < b → Ok g M R Z kc ks h x0 L st) (kf : b ≤ a → Ok g M R Z kc ks h n L st) : Ok g M R Z kc ks h pc L (.long (lN b) :: .long (lN a) :: st) := kl_lt hf hf2 (fun q => kt ((pk_lLT ha hb).mp q)) (fun q => kf (Nat.not_lt.mp (fun z => q ((pk_lLT ha hb).mpr z))))
theorem kl_ge {n1 z0 z1 : Nat} {o : Int} {x y : Int64} (hf : md_f M pc = some (.lcmp, 1, n1, z0, z1)) (hf2 : md_f M n1 = some (.ifCond .ge o, 3, n, x0, y0)) (kt : y ≤ x → Ok g M R Z kc ks h x0 L st) (kf : ¬ (y ≤ x) → Ok g M R Z kc ks h n L st) : Ok g M R Z kc ks h pc L (.long y :: .long x :: st) := k_lcmp hf (k_if_ge hf2 (fun q => kt ((lg_cmp_ge x y).mp q)) (fun q => kf (fun z => q ((lg_cmp_ge x y).mpr z))))
theorem klN_ge {n1 z0 z1 : Nat} {o : Int} {a b : Nat} (hf : md_f M pc = some (.lcmp, 1, n1, z0, z1)) (hf2 : md_f M n1 = some (.ifCond .ge o, 3, n, x0, y0)) (ha : a < 2 ^ 63) (hb : b < 2 ^ 63) (kt : b ≤ a → Ok g M R Z kc ks h x0 L st) (kf : a < b → Ok g M R Z kc ks h n L st) : Ok g M R Z kc ks h pc L (.long (lN b) :: .long (lN a) :: st) := kl_ge hf hf2 (fun q => kt ((pk_lLE hb ha).mp q)) (fun q => kf (Nat.not_le.mp (fun z => q ((pk_lLE hb ha).mpr z))))
theorem kl_gt {n1 z0 z1 : Nat} {o : Int} {x y : Int64} (hf : md_f M pc = some (.lcmp, 1, n1, z0, z1)) (hf2 : md_f M n1 = some (.ifCond .gt o, 3, n, x0, y0)) (kt : y < x → Ok g M R Z kc ks h x0 L st) (kf : ¬ (y < x) → Ok g M R Z kc ks h n L st) : Ok g M R Z kc ks h pc L (.long y :: .long x :: st) := k_lcmp hf (k_if_gt hf2 (fun q => kt ((lg_cmp_gt x y).mp q)) (fun q => kf (fun z => q ((lg_cmp_gt x y).mpr z))))
theorem klN_gt {n1 z0 z1 : Nat} {o : Int} {a b : Nat} (hf : md_f M pc = some (.lcmp, 1, n1, z0, z1)) (hf2 : md_f M n1 = some (.ifCond .gt o, 3, n, x0, y0)) (ha : a < 2 ^ 63) (hb : b < 2 ^ 63) (kt : b < a → Ok g M R Z kc ks h x0 L st) (kf : a ≤ b → Ok g M R Z kc ks h n L st) : Ok g M R Z kc ks h pc L (.long (lN b) :: .long (lN a) :: st) := kl_gt hf hf2 (fun q => kt ((pk_lLT hb ha).mp q)) (fun q => kf (Nat.not_lt.mp (fun z => q ((pk_lLT hb ha).mpr z))))
theorem kl_eq {n1 z0 z1 : Nat} {o : Int} {x y : Int64} (hf : md_f M pc = some (.lcmp, 1, n1, z0, z1)) (hf2 : md_f M n1 = some (.ifCond .eq o, 3, n, x0, y0)) (kt : x = y → Ok g M R Z kc ks h x0 L st) (kf : ¬ (x = y) → Ok g M R Z kc ks h n L st) : Ok g M R Z kc ks h pc L (.long y :: .long x :: st) := k_lcmp hf (k_if_eq hf2 (fun q => kt ((lg_cmp_eq x y).mp q)) (fun q => kf (fun z => q ((lg_cmp_eq x y).mpr z))))
theorem klN_eq {n1 z0 z1 : Nat} {o : Int} {a b : Nat} (hf : md_f M pc = some (.lcmp, 1, n1, z0, z1)) (hf2 : md_f M n1 = some (.ifCond .eq o, 3, n, x0, y0)) (ha : a < 2 ^ 63) (hb : b < 2 ^ 63) (kt : a = b → Ok g M R Z kc ks h x0 L st) (kf : a ≠ b → Ok g M R Z kc ks h n L st) : Ok g M R Z kc ks h pc L (.long (lN b) :: .long (lN a) :: st) := kl_eq hf hf2 (fun q => kt ((pk_lEQ ha hb).mp q)) (fun q => kf (id (fun z => q ((pk_lEQ ha hb).mpr z))))
theorem kl_ne {n1 z0 z1 : Nat} {o : Int} {x y : Int64} (hf : md_f M pc = some (.lcmp, 1, n1, z0, z1)) (hf2 : md_f M n1 = some (.ifCond .ne o, 3, n, x0, y0)) (kt : ¬ x = y → Ok g M R Z kc ks h x0 L st) (kf : x = y → Ok g M R Z kc ks h n L st) : Ok g M R Z kc ks h pc L (.long y :: .long x :: st) := k_lcmp hf (k_if_ne hf2 (fun q => kt (fun z => q ((lg_cmp_eq x y).mpr z))) (fun q => kf ((lg_cmp_eq x y).mp q)))
theorem klN_ne {n1 z0 z1 : Nat} {o : Int} {a b : Nat} (hf : md_f M pc = some (.lcmp, 1, n1, z0, z1)) (hf2 : md_f M n1 = some (.ifCond .ne o, 3, n, x0, y0)) (ha : a < 2 ^ 63) (hb : b < 2 ^ 63) (kt : a ≠ b → Ok g M R Z kc ks h x0 L st) (kf : a = b → Ok g M R Z kc ks h n L st) : Ok g M R Z kc ks h pc L (.long (lN b) :: .long (lN a) :: st) := kl_ne hf hf2 (fun q => kt (fun z => q ((pk_lEQ ha hb).mpr z))) (fun q => kf ((pk_lEQ ha hb).mp q))
end NUMS
theorem nI_one : nI 1 = 1 := by decide +kernel
theorem ix40 (l k : Nat) : nI 40 * nI l + nI k = nI (40 * l + k) := by rw [pk_mul, nI_add]
theorem ix24 (l k : Nat) : nI 24 * nI l + nI k = nI (24 * l + k) := by rw [pk_mul, nI_add]
end
section
/-! THE STATE: how many cells; the told ones in their order: number, area, counts by thing; things; lookers: squares an hour, hours, hours of no use; the plan; hours looked; the looks; where it was seen; when to stop -/
abbrev St : Type := (Nat) × (Nat) × (Nat → Nat) × (Nat → Nat) × (Nat → Nat → Nat) × (Nat) × (Nat) × (Nat → Nat) × (Nat → Nat) × (Nat → Nat → Bool) × (Nat → Nat → Nat) × (Nat → Nat → Nat) × (Nat) × (Nat → Nat) × (Nat → Nat) × (Nat → Nat) × (Nat → Nat) × (Option Nat) × (Nat) × (Nat)
def s_cells (s : St) : Nat := s.1
def s_told (s : St) : Nat := s.2.1
def s_num (s : St) : Nat → Nat := s.2.2.1
def s_ar (s : St) : Nat → Nat := s.2.2.2.1
def s_cn (s : St) : Nat → Nat → Nat := s.2.2.2.2.1
def s_things (s : St) : Nat := s.2.2.2.2.2.1
def s_lkr (s : St) : Nat := s.2.2.2.2.2.2.1
def s_rt (s : St) : Nat → Nat := s.2.2.2.2.2.2.2.1
def s_hr (s : St) : Nat → Nat := s.2.2.2.2.2.2.2.2.1
def s_bd (s : St) : Nat → Nat → Bool := s.2.2.2.2.2.2.2.2.2.1
def s_pl (s : St) : Nat → Nat → Nat := s.2.2.2.2.2.2.2.2.2.2.1
def s_ld (s : St) : Nat → Nat → Nat := s.2.2.2.2.2.2.2.2.2.2.2.1
def s_lks (s : St) : Nat := s.2.2.2.2.2.2.2.2.2.2.2.2.1
def s_gl (s : St) : Nat → Nat := s.2.2.2.2.2.2.2.2.2.2.2.2.2.1
def s_gc (s : St) : Nat → Nat := s.2.2.2.2.2.2.2.2.2.2.2.2.2.2.1
def s_gh (s : St) : Nat → Nat := s.2.2.2.2.2.2.2.2.2.2.2.2.2.2.2.1
def s_gt (s : St) : Nat → Nat := s.2.2.2.2.2.2.2.2.2.2.2.2.2.2.2.2.1
def s_seen (s : St) : Option Nat := s.2.2.2.2.2.2.2.2.2.2.2.2.2.2.2.2.2.1
def s_ab (s : St) : Nat := s.2.2.2.2.2.2.2.2.2.2.2.2.2.2.2.2.2.2.1
def s_bl (s : St) : Nat := s.2.2.2.2.2.2.2.2.2.2.2.2.2.2.2.2.2.2.2
def w_cells (s : St) (v : Nat) : St := (v, s.2.1, s.2.2.1, s.2.2.2.1, s.2.2.2.2.1, s.2.2.2.2.2.1, s.2.2.2.2.2.2.1, s.2.2.2.2.2.2.2.1, s.2.2.2.2.2.2.2.2.1, s.2.2.2.2.2.2.2.2.2.1, s.2.2.2.2.2.2.2.2.2.2.1, s.2.2.2.2.2.2.2.2.2.2.2.1, s.2.2.2.2.2.2.2.2.2.2.2.2.1, s.2.2.2.2.2.2.2.2.2.2.2.2.2.1, s.2.2.2.2.2.2.2.2.2.2.2.2.2.2.1, s.2.2.2.2.2.2.2.2.2.2.2.2.2.2.2.1, s.2.2.2.2.2.2.2.2.2.2.2.2.2.2.2.2.1, s.2.2.2.2.2.2.2.2.2.2.2.2.2.2.2.2.2.1, s.2.2.2.2.2.2.2.2.2.2.2.2.2.2.2.2.2.2.1, s.2.2.2.2.2.2.2.2.2.2.2.2.2.2.2.2.2.2.2)
def w_told (s : St) (v : Nat) : St := (s.1, v, s.2.2.1, s.2.2.2.1, s.2.2.2.2.1, s.2.2.2.2.2.1, s.2.2.2.2.2.2.1, s.2.2.2.2.2.2.2.1, s.2.2.2.2.2.2.2.2.1, s.2.2.2.2.2.2.2.2.2.1, s.2.2.2.2.2.2.2.2.2.2.1, s.2.2.2.2.2.2.2.2.2.2.2.1, s.2.2.2.2.2.2.2.2.2.2.2.2.1, s.2.2.2.2.2.2.2.2.2.2.2.2.2.1, s.2.2.2.2.2.2.2.2.2.2.2.2.2.2.1, s.2.2.2.2.2.2.2.2.2.2.2.2.2.2.2.1, s.2.2.2.2.2.2.2.2.2.2.2.2.2.2.2.2.1, s.2.2.2.2.2.2.2.2.2.2.2.2.2.2.2.2.2.1, s.2.2.2.2.2.2.2.2.2.2.2.2.2.2.2.2.2.2.1, s.2.2.2.2.2.2.2.2.2.2.2.2.2.2.2.2.2.2.2)
def w_num (s : St) (v : Nat → Nat) : St := (s.1, s.2.1, v, s.2.2.2.1, s.2.2.2.2.1, s.2.2.2.2.2.1, s.2.2.2.2.2.2.1, s.2.2.2.2.2.2.2.1, s.2.2.2.2.2.2.2.2.1, s.2.2.2.2.2.2.2.2.2.1, s.2.2.2.2.2.2.2.2.2.2.1, s.2.2.2.2.2.2.2.2.2.2.2.1, s.2.2.2.2.2.2.2.2.2.2.2.2.1, s.2.2.2.2.2.2.2.2.2.2.2.2.2.1, s.2.2.2.2.2.2.2.2.2.2.2.2.2.2.1, s.2.2.2.2.2.2.2.2.2.2.2.2.2.2.2.1, s.2.2.2.2.2.2.2.2.2.2.2.2.2.2.2.2.1, s.2.2.2.2.2.2.2.2.2.2.2.2.2.2.2.2.2.1, s.2.2.2.2.2.2.2.2.2.2.2.2.2.2.2.2.2.2.1, s.2.2.2.2.2.2.2.2.2.2.2.2.2.2.2.2.2.2.2)
def w_ar (s : St) (v : Nat → Nat) : St := (s.1, s.2.1, s.2.2.1, v, s.2.2.2.2.1, s.2.2.2.2.2.1, s.2.2.2.2.2.2.1, s.2.2.2.2.2.2.2.1, s.2.2.2.2.2.2.2.2.1, s.2.2.2.2.2.2.2.2.2.1, s.2.2.2.2.2.2.2.2.2.2.1, s.2.2.2.2.2.2.2.2.2.2.2.1, s.2.2.2.2.2.2.2.2.2.2.2.2.1, s.2.2.2.2.2.2.2.2.2.2.2.2.2.1, s.2.2.2.2.2.2.2.2.2.2.2.2.2.2.1, s.2.2.2.2.2.2.2.2.2.2.2.2.2.2.2.1, s.2.2.2.2.2.2.2.2.2.2.2.2.2.2.2.2.1, s.2.2.2.2.2.2.2.2.2.2.2.2.2.2.2.2.2.1, s.2.2.2.2.2.2.2.2.2.2.2.2.2.2.2.2.2.2.1, s.2.2.2.2.2.2.2.2.2.2.2.2.2.2.2.2.2.2.2)
def w_cn (s : St) (v : Nat → Nat → Nat) : St := (s.1, s.2.1, s.2.2.1, s.2.2.2.1, v, s.2.2.2.2.2.1, s.2.2.2.2.2.2.1, s.2.2.2.2.2.2.2.1, s.2.2.2.2.2.2.2.2.1, s.2.2.2.2.2.2.2.2.2.1, s.2.2.2.2.2.2.2.2.2.2.1, s.2.2.2.2.2.2.2.2.2.2.2.1, s.2.2.2.2.2.2.2.2.2.2.2.2.1, s.2.2.2.2.2.2.2.2.2.2.2.2.2.1, s.2.2.2.2.2.2.2.2.2.2.2.2.2.2.1, s.2.2.2.2.2.2.2.2.2.2.2.2.2.2.2.1, s.2.2.2.2.2.2.2.2.2.2.2.2.2.2.2.2.1, s.2.2.2.2.2.2.2.2.2.2.2.2.2.2.2.2.2.1, s.2.2.2.2.2.2.2.2.2.2.2.2.2.2.2.2.2.2.1, s.2.2.2.2.2.2.2.2.2.2.2.2.2.2.2.2.2.2.2)
def w_things (s : St) (v : Nat) : St := (s.1, s.2.1, s.2.2.1, s.2.2.2.1, s.2.2.2.2.1, v, s.2.2.2.2.2.2.1, s.2.2.2.2.2.2.2.1, s.2.2.2.2.2.2.2.2.1, s.2.2.2.2.2.2.2.2.2.1, s.2.2.2.2.2.2.2.2.2.2.1, s.2.2.2.2.2.2.2.2.2.2.2.1, s.2.2.2.2.2.2.2.2.2.2.2.2.1, s.2.2.2.2.2.2.2.2.2.2.2.2.2.1, s.2.2.2.2.2.2.2.2.2.2.2.2.2.2.1, s.2.2.2.2.2.2.2.2.2.2.2.2.2.2.2.1, s.2.2.2.2.2.2.2.2.2.2.2.2.2.2.2.2.1, s.2.2.2.2.2.2.2.2.2.2.2.2.2.2.2.2.2.1, s.2.2.2.2.2.2.2.2.2.2.2.2.2.2.2.2.2.2.1, s.2.2.2.2.2.2.2.2.2.2.2.2.2.2.2.2.2.2.2)
def w_lkr (s : St) (v : Nat) : St := (s.1, s.2.1, s.2.2.1, s.2.2.2.1, s.2.2.2.2.1, s.2.2.2.2.2.1, v, s.2.2.2.2.2.2.2.1, s.2.2.2.2.2.2.2.2.1, s.2.2.2.2.2.2.2.2.2.1, s.2.2.2.2.2.2.2.2.2.2.1, s.2.2.2.2.2.2.2.2.2.2.2.1, s.2.2.2.2.2.2.2.2.2.2.2.2.1, s.2.2.2.2.2.2.2.2.2.2.2.2.2.1, s.2.2.2.2.2.2.2.2.2.2.2.2.2.2.1, s.2.2.2.2.2.2.2.2.2.2.2.2.2.2.2.1, s.2.2.2.2.2.2.2.2.2.2.2.2.2.2.2.2.1, s.2.2.2.2.2.2.2.2.2.2.2.2.2.2.2.2.2.1, s.2.2.2.2.2.2.2.2.2.2.2.2.2.2.2.2.2.2.1, s.2.2.2.2.2.2.2.2.2.2.2.2.2.2.2.2.2.2.2)
def w_rt (s : St) (v : Nat → Nat) : St := (s.1, s.2.1, s.2.2.1, s.2.2.2.1, s.2.2.2.2.1, s.2.2.2.2.2.1, s.2.2.2.2.2.2.1, v, s.2.2.2.2.2.2.2.2.1, s.2.2.2.2.2.2.2.2.2.1, s.2.2.2.2.2.2.2.2.2.2.1, s.2.2.2.2.2.2.2.2.2.2.2.1, s.2.2.2.2.2.2.2.2.2.2.2.2.1, s.2.2.2.2.2.2.2.2.2.2.2.2.2.1, s.2.2.2.2.2.2.2.2.2.2.2.2.2.2.1, s.2.2.2.2.2.2.2.2.2.2.2.2.2.2.2.1, s.2.2.2.2.2.2.2.2.2.2.2.2.2.2.2.2.1, s.2.2.2.2.2.2.2.2.2.2.2.2.2.2.2.2.2.1, s.2.2.2.2.2.2.2.2.2.2.2.2.2.2.2.2.2.2.1, s.2.2.2.2.2.2.2.2.2.2.2.2.2.2.2.2.2.2.2)
def w_hr (s : St) (v : Nat → Nat) : St := (s.1, s.2.1, s.2.2.1, s.2.2.2.1, s.2.2.2.2.1, s.2.2.2.2.2.1, s.2.2.2.2.2.2.1, s.2.2.2.2.2.2.2.1, v, s.2.2.2.2.2.2.2.2.2.1, s.2.2.2.2.2.2.2.2.2.2.1, s.2.2.2.2.2.2.2.2.2.2.2.1, s.2.2.2.2.2.2.2.2.2.2.2.2.1, s.2.2.2.2.2.2.2.2.2.2.2.2.2.1, s.2.2.2.2.2.2.2.2.2.2.2.2.2.2.1, s.2.2.2.2.2.2.2.2.2.2.2.2.2.2.2.1, s.2.2.2.2.2.2.2.2.2.2.2.2.2.2.2.2.1, s.2.2.2.2.2.2.2.2.2.2.2.2.2.2.2.2.2.1, s.2.2.2.2.2.2.2.2.2.2.2.2.2.2.2.2.2.2.1, s.2.2.2.2.2.2.2.2.2.2.2.2.2.2.2.2.2.2.2)
def w_bd (s : St) (v : Nat → Nat → Bool) : St := (s.1, s.2.1, s.2.2.1, s.2.2.2.1, s.2.2.2.2.1, s.2.2.2.2.2.1, s.2.2.2.2.2.2.1, s.2.2.2.2.2.2.2.1, s.2.2.2.2.2.2.2.2.1, v, s.2.2.2.2.2.2.2.2.2.2.1, s.2.2.2.2.2.2.2.2.2.2.2.1, s.2.2.2.2.2.2.2.2.2.2.2.2.1, s.2.2.2.2.2.2.2.2.2.2.2.2.2.1, s.2.2.2.2.2.2.2.2.2.2.2.2.2.2.1, s.2.2.2.2.2.2.2.2.2.2.2.2.2.2.2.1, s.2.2.2.2.2.2.2.2.2.2.2.2.2.2.2.2.1, s.2.2.2.2.2.2.2.2.2.2.2.2.2.2.2.2.2.1, s.2.2.2.2.2.2.2.2.2.2.2.2.2.2.2.2.2.2.1, s.2.2.2.2.2.2.2.2.2.2.2.2.2.2.2.2.2.2.2)
def w_pl (s : St) (v : Nat → Nat → Nat) : St := (s.1, s.2.1, s.2.2.1, s.2.2.2.1, s.2.2.2.2.1, s.2.2.2.2.2.1, s.2.2.2.2.2.2.1, s.2.2.2.2.2.2.2.1, s.2.2.2.2.2.2.2.2.1, s.2.2.2.2.2.2.2.2.2.1, v, s.2.2.2.2.2.2.2.2.2.2.2.1, s.2.2.2.2.2.2.2.2.2.2.2.2.1, s.2.2.2.2.2.2.2.2.2.2.2.2.2.1, s.2.2.2.2.2.2.2.2.2.2.2.2.2.2.1, s.2.2.2.2.2.2.2.2.2.2.2.2.2.2.2.1, s.2.2.2.2.2.2.2.2.2.2.2.2.2.2.2.2.1, s.2.2.2.2.2.2.2.2.2.2.2.2.2.2.2.2.2.1, s.2.2.2.2.2.2.2.2.2.2.2.2.2.2.2.2.2.2.1, s.2.2.2.2.2.2.2.2.2.2.2.2.2.2.2.2.2.2.2)
def w_ld (s : St) (v : Nat → Nat → Nat) : St := (s.1, s.2.1, s.2.2.1, s.2.2.2.1, s.2.2.2.2.1, s.2.2.2.2.2.1, s.2.2.2.2.2.2.1, s.2.2.2.2.2.2.2.1, s.2.2.2.2.2.2.2.2.1, s.2.2.2.2.2.2.2.2.2.1, s.2.2.2.2.2.2.2.2.2.2.1, v, s.2.2.2.2.2.2.2.2.2.2.2.2.1, s.2.2.2.2.2.2.2.2.2.2.2.2.2.1, s.2.2.2.2.2.2.2.2.2.2.2.2.2.2.1, s.2.2.2.2.2.2.2.2.2.2.2.2.2.2.2.1, s.2.2.2.2.2.2.2.2.2.2.2.2.2.2.2.2.1, s.2.2.2.2.2.2.2.2.2.2.2.2.2.2.2.2.2.1, s.2.2.2.2.2.2.2.2.2.2.2.2.2.2.2.2.2.2.1, s.2.2.2.2.2.2.2.2.2.2.2.2.2.2.2.2.2.2.2)
def w_lks (s : St) (v : Nat) : St := (s.1, s.2.1, s.2.2.1, s.2.2.2.1, s.2.2.2.2.1, s.2.2.2.2.2.1, s.2.2.2.2.2.2.1, s.2.2.2.2.2.2.2.1, s.2.2.2.2.2.2.2.2.1, s.2.2.2.2.2.2.2.2.2.1, s.2.2.2.2.2.2.2.2.2.2.1, s.2.2.2.2.2.2.2.2.2.2.2.1, v, s.2.2.2.2.2.2.2.2.2.2.2.2.2.1, s.2.2.2.2.2.2.2.2.2.2.2.2.2.2.1, s.2.2.2.2.2.2.2.2.2.2.2.2.2.2.2.1, s.2.2.2.2.2.2.2.2.2.2.2.2.2.2.2.2.1, s.2.2.2.2.2.2.2.2.2.2.2.2.2.2.2.2.2.1, s.2.2.2.2.2.2.2.2.2.2.2.2.2.2.2.2.2.2.1, s.2.2.2.2.2.2.2.2.2.2.2.2.2.2.2.2.2.2.2)
def w_gl (s : St) (v : Nat → Nat) : St := (s.1, s.2.1, s.2.2.1, s.2.2.2.1, s.2.2.2.2.1, s.2.2.2.2.2.1, s.2.2.2.2.2.2.1, s.2.2.2.2.2.2.2.1, s.2.2.2.2.2.2.2.2.1, s.2.2.2.2.2.2.2.2.2.1, s.2.2.2.2.2.2.2.2.2.2.1, s.2.2.2.2.2.2.2.2.2.2.2.1, s.2.2.2.2.2.2.2.2.2.2.2.2.1, v, s.2.2.2.2.2.2.2.2.2.2.2.2.2.2.1, s.2.2.2.2.2.2.2.2.2.2.2.2.2.2.2.1, s.2.2.2.2.2.2.2.2.2.2.2.2.2.2.2.2.1, s.2.2.2.2.2.2.2.2.2.2.2.2.2.2.2.2.2.1, s.2.2.2.2.2.2.2.2.2.2.2.2.2.2.2.2.2.2.1, s.2.2.2.2.2.2.2.2.2.2.2.2.2.2.2.2.2.2.2)
def w_gc (s : St) (v : Nat → Nat) : St := (s.1, s.2.1, s.2.2.1, s.2.2.2.1, s.2.2.2.2.1, s.2.2.2.2.2.1, s.2.2.2.2.2.2.1, s.2.2.2.2.2.2.2.1, s.2.2.2.2.2.2.2.2.1, s.2.2.2.2.2.2.2.2.2.1, s.2.2.2.2.2.2.2.2.2.2.1, s.2.2.2.2.2.2.2.2.2.2.2.1, s.2.2.2.2.2.2.2.2.2.2.2.2.1, s.2.2.2.2.2.2.2.2.2.2.2.2.2.1, v, s.2.2.2.2.2.2.2.2.2.2.2.2.2.2.2.1, s.2.2.2.2.2.2.2.2.2.2.2.2.2.2.2.2.1, s.2.2.2.2.2.2.2.2.2.2.2.2.2.2.2.2.2.1, s.2.2.2.2.2.2.2.2.2.2.2.2.2.2.2.2.2.2.1, s.2.2.2.2.2.2.2.2.2.2.2.2.2.2.2.2.2.2.2)
def w_gh (s : St) (v : Nat → Nat) : St := (s.1, s.2.1, s.2.2.1, s.2.2.2.1, s.2.2.2.2.1, s.2.2.2.2.2.1, s.2.2.2.2.2.2.1, s.2.2.2.2.2.2.2.1, s.2.2.2.2.2.2.2.2.1, s.2.2.2.2.2.2.2.2.2.1, s.2.2.2.2.2.2.2.2.2.2.1, s.2.2.2.2.2.2.2.2.2.2.2.1, s.2.2.2.2.2.2.2.2.2.2.2.2.1, s.2.2.2.2.2.2.2.2.2.2.2.2.2.1, s.2.2.2.2.2.2.2.2.2.2.2.2.2.2.1, v, s.2.2.2.2.2.2.2.2.2.2.2.2.2.2.2.2.1, s.2.2.2.2.2.2.2.2.2.2.2.2.2.2.2.2.2.1, s.2.2.2.2.2.2.2.2.2.2.2.2.2.2.2.2.2.2.1, s.2.2.2.2.2.2.2.2.2.2.2.2.2.2.2.2.2.2.2)
def w_gt (s : St) (v : Nat → Nat) : St := (s.1, s.2.1, s.2.2.1, s.2.2.2.1, s.2.2.2.2.1, s.2.2.2.2.2.1, s.2.2.2.2.2.2.1, s.2.2.2.2.2.2.2.1, s.2.2.2.2.2.2.2.2.1, s.2.2.2.2.2.2.2.2.2.1, s.2.2.2.2.2.2.2.2.2.2.1, s.2.2.2.2.2.2.2.2.2.2.2.1, s.2.2.2.2.2.2.2.2.2.2.2.2.1, s.2.2.2.2.2.2.2.2.2.2.2.2.2.1, s.2.2.2.2.2.2.2.2.2.2.2.2.2.2.1, s.2.2.2.2.2.2.2.2.2.2.2.2.2.2.2.1, v, s.2.2.2.2.2.2.2.2.2.2.2.2.2.2.2.2.2.1, s.2.2.2.2.2.2.2.2.2.2.2.2.2.2.2.2.2.2.1, s.2.2.2.2.2.2.2.2.2.2.2.2.2.2.2.2.2.2.2)
def w_seen (s : St) (v : Option Nat) : St := (s.1, s.2.1, s.2.2.1, s.2.2.2.1, s.2.2.2.2.1, s.2.2.2.2.2.1, s.2.2.2.2.2.2.1, s.2.2.2.2.2.2.2.1, s.2.2.2.2.2.2.2.2.1, s.2.2.2.2.2.2.2.2.2.1, s.2.2.2.2.2.2.2.2.2.2.1, s.2.2.2.2.2.2.2.2.2.2.2.1, s.2.2.2.2.2.2.2.2.2.2.2.2.1, s.2.2.2.2.2.2.2.2.2.2.2.2.2.1, s.2.2.2.2.2.2.2.2.2.2.2.2.2.2.1, s.2.2.2.2.2.2.2.2.2.2.2.2.2.2.2.1, s.2.2.2.2.2.2.2.2.2.2.2.2.2.2.2.2.1, v, s.2.2.2.2.2.2.2.2.2.2.2.2.2.2.2.2.2.2.1, s.2.2.2.2.2.2.2.2.2.2.2.2.2.2.2.2.2.2.2)
def w_ab (s : St) (v : Nat) : St := (s.1, s.2.1, s.2.2.1, s.2.2.2.1, s.2.2.2.2.1, s.2.2.2.2.2.1, s.2.2.2.2.2.2.1, s.2.2.2.2.2.2.2.1, s.2.2.2.2.2.2.2.2.1, s.2.2.2.2.2.2.2.2.2.1, s.2.2.2.2.2.2.2.2.2.2.1, s.2.2.2.2.2.2.2.2.2.2.2.1, s.2.2.2.2.2.2.2.2.2.2.2.2.1, s.2.2.2.2.2.2.2.2.2.2.2.2.2.1, s.2.2.2.2.2.2.2.2.2.2.2.2.2.2.1, s.2.2.2.2.2.2.2.2.2.2.2.2.2.2.2.1, s.2.2.2.2.2.2.2.2.2.2.2.2.2.2.2.2.1, s.2.2.2.2.2.2.2.2.2.2.2.2.2.2.2.2.2.1, v, s.2.2.2.2.2.2.2.2.2.2.2.2.2.2.2.2.2.2.2)
def w_bl (s : St) (v : Nat) : St := (s.1, s.2.1, s.2.2.1, s.2.2.2.1, s.2.2.2.2.1, s.2.2.2.2.2.1, s.2.2.2.2.2.2.1, s.2.2.2.2.2.2.2.1, s.2.2.2.2.2.2.2.2.1, s.2.2.2.2.2.2.2.2.2.1, s.2.2.2.2.2.2.2.2.2.2.1, s.2.2.2.2.2.2.2.2.2.2.2.1, s.2.2.2.2.2.2.2.2.2.2.2.2.1, s.2.2.2.2.2.2.2.2.2.2.2.2.2.1, s.2.2.2.2.2.2.2.2.2.2.2.2.2.2.1, s.2.2.2.2.2.2.2.2.2.2.2.2.2.2.2.1, s.2.2.2.2.2.2.2.2.2.2.2.2.2.2.2.2.1, s.2.2.2.2.2.2.2.2.2.2.2.2.2.2.2.2.2.1, s.2.2.2.2.2.2.2.2.2.2.2.2.2.2.2.2.2.2.1, v)
def sI (r : Option Nat) : Int32 := match r with
  | some k => nI k
  | none => -1
/-- the first of n places from i on that holds c -/
def plc (f : Nat → Int32) (c : Int32) : Nat → Nat → Option Nat
  | 0, _ => none
  | n + 1, i => if f i = c then some i else plc f c n (i + 1)
theorem plc_cong {f f1 : Nat → Int32} {c : Int32} : ∀ (n i : Nat), (∀ k, i ≤ k → k < i + n → f k = f1 k) → plc f c n i = plc f1 c n i
  | 0, _, _ => rfl
  | n + 1, i, e => by
    simp only [plc]
    rw [e i (Nat.le_refl _) (by omega), plc_cong n (i + 1) (fun k h1 h2 => e k (by omega) (by omega))]
theorem plc_some {f : Nat → Int32} {c : Int32} : ∀ (n i k : Nat), plc f c n i = some k → i ≤ k ∧ k < i + n ∧ f k = c
  | 0, _, _, h => by cases h
  | n + 1, i, k, h => by
    simp only [plc] at h
    split at h
    · next e => cases h; exact ⟨Nat.le_refl _, by omega, e⟩
    · obtain ⟨h1, h2, h3⟩ := plc_some n (i + 1) k h
      exact ⟨by omega, by omega, h3⟩
theorem plc_none {f : Nat → Int32} {c : Int32} : ∀ (n i : Nat), plc f c n i = none → ∀ k, i ≤ k → k < i + n → f k ≠ c
  | 0, _, _, k, h1, h2 => by omega
  | n + 1, i, h, k, h1, h2 => by
    simp only [plc] at h
    split at h
    · cases h
    · next e =>
      by_cases z : k = i
      · subst z; exact e
      · exact plc_none n (i + 1) h k (by omega) (by omega)
def plS (s : St) (c : Int32) : Option Nat := plc (fun k => nI (s_num s k)) c (s_told s) 0
theorem plS_lt {s : St} {c : Int32} {k : Nat} (h : plS s c = some k) : k < s_told s := by
  have := (plc_some _ _ _ h).2.1
  omega
def isc (n c : Int32) : Bool := decide (0 ≤ c) && decide (c < n)
/-- the bounds -/
def Inv (s : St) : Prop := s_told s ≤ 40 ∧ s_lkr s ≤ 4 ∧ (1 ≤ s_things s ∧ s_things s ≤ 4) ∧ s_lks s ≤ 200 ∧ (1 ≤ s_cells s ∧ s_cells s ≤ 65536) ∧
  (∀ k, k < s_told s → s_num s k < s_cells s) ∧ (∀ i k, i < k → k < s_told s → s_num s i < s_num s k) ∧ (∀ k, k < s_told s → 0 < s_ar s k ∧ s_ar s k ∣ 720) ∧
  (∀ t k, t < 4 → k < s_told s → s_cn s t k ≤ 1000) ∧ (∀ l, l < s_lkr s → 1 ≤ s_rt s l ∧ s_rt s l ≤ 1000) ∧ (∀ l, l < s_lkr s → 1 ≤ s_hr s l ∧ s_hr s l ≤ 24) ∧
  (∀ l k, l < 4 → k < 40 → s_pl s l k ≤ 100) ∧ (∀ l k, l < 4 → k < s_told s → s_ld s l k ≤ 100 * s_lks s) ∧ (∀ q, q < s_lks s → s_gl s q < s_lkr s ∧ s_gc s q < s_cells s ∧ 1 ≤ s_gh s q ∧ s_gh s q ≤ 100 ∧ s_gt s q < 2 ^ 63) ∧
  (∀ c, s_seen s = some c → c < s_cells s) ∧ s_ab s ≤ s_bl s ∧ s_bl s ≤ 100
theorem v_told {s : St} (h : Inv s) : s_told s ≤ 40 := h.1
theorem v_lkr {s : St} (h : Inv s) : s_lkr s ≤ 4 := h.2.1
theorem v_things {s : St} (h : Inv s) : 1 ≤ s_things s ∧ s_things s ≤ 4 := h.2.2.1
theorem v_lks {s : St} (h : Inv s) : s_lks s ≤ 200 := h.2.2.2.1
theorem v_cells {s : St} (h : Inv s) : 1 ≤ s_cells s ∧ s_cells s ≤ 65536 := h.2.2.2.2.1
theorem v_num {s : St} (h : Inv s) : ∀ k, k < s_told s → s_num s k < s_cells s := h.2.2.2.2.2.1
theorem v_ord {s : St} (h : Inv s) : ∀ i k, i < k → k < s_told s → s_num s i < s_num s k := h.2.2.2.2.2.2.1
theorem v_ar {s : St} (h : Inv s) : ∀ k, k < s_told s → 0 < s_ar s k ∧ s_ar s k ∣ 720 := h.2.2.2.2.2.2.2.1
theorem v_cn {s : St} (h : Inv s) : ∀ t k, t < 4 → k < s_told s → s_cn s t k ≤ 1000 := h.2.2.2.2.2.2.2.2.1
theorem v_rt {s : St} (h : Inv s) : ∀ l, l < s_lkr s → 1 ≤ s_rt s l ∧ s_rt s l ≤ 1000 := h.2.2.2.2.2.2.2.2.2.1
theorem v_hr {s : St} (h : Inv s) : ∀ l, l < s_lkr s → 1 ≤ s_hr s l ∧ s_hr s l ≤ 24 := h.2.2.2.2.2.2.2.2.2.2.1
theorem v_pl {s : St} (h : Inv s) : ∀ l k, l < 4 → k < 40 → s_pl s l k ≤ 100 := h.2.2.2.2.2.2.2.2.2.2.2.1
theorem v_ld {s : St} (h : Inv s) : ∀ l k, l < 4 → k < s_told s → s_ld s l k ≤ 100 * s_lks s := h.2.2.2.2.2.2.2.2.2.2.2.2.1
theorem v_log {s : St} (h : Inv s) : ∀ q, q < s_lks s → s_gl s q < s_lkr s ∧ s_gc s q < s_cells s ∧ 1 ≤ s_gh s q ∧ s_gh s q ≤ 100 ∧ s_gt s q < 2 ^ 63 := h.2.2.2.2.2.2.2.2.2.2.2.2.2.1
theorem v_seen {s : St} (h : Inv s) : ∀ c, s_seen s = some c → c < s_cells s := h.2.2.2.2.2.2.2.2.2.2.2.2.2.2.1
theorem v_ab {s : St} (h : Inv s) : s_ab s ≤ s_bl s := h.2.2.2.2.2.2.2.2.2.2.2.2.2.2.2.1
theorem v_bl {s : St} (h : Inv s) : s_bl s ≤ 100 := h.2.2.2.2.2.2.2.2.2.2.2.2.2.2.2.2
theorem ar_le {s : St} (h : Inv s) {k : Nat} (hk : k < s_told s) : s_ar s k ≤ 720 := Nat.le_of_dvd (by decide) (v_ar h k hk).2
theorem nI_ne {a b : Nat} (ha : a < 2 ^ 31) (hb : b < 2 ^ 31) (h : a ≠ b) : nI a ≠ nI b := fun e => h ((nI_eq ha hb).mp e)
end
section
/-! THE REFERENCE: its shape: an object at m, its arrays at m + 1 .. m + 13 -/
def ShR (g : Gx) (h : Hp) (m : Nat) : Prop := isO g h m 4 ∧ isA g h (m + 1) 0 40 ∧ isA g h (m + 2) 0 40 ∧ isA g h (m + 3) 0 160 ∧ isA g h (m + 4) 0 4 ∧ isA g h (m + 5) 0 4 ∧ isA g h (m + 6) 2 96 ∧ isA g h (m + 7) 0 160 ∧ isA g h (m + 8) 0 160 ∧ isA g h (m + 9) 0 160 ∧ isA g h (m + 10) 0 200 ∧ isA g h (m + 11) 0 200 ∧ isA g h (m + 12) 0 200 ∧ isA g h (m + 13) 1 200 ∧ hp_r h m 2 = some (m + 1) ∧ hp_r h m 3 = some (m + 2) ∧ hp_r h m 4 = some (m + 3) ∧ hp_r h m 7 = some (m + 4) ∧ hp_r h m 8 = some (m + 5) ∧ hp_r h m 9 = some (m + 6) ∧ hp_r h m 10 = some (m + 7) ∧ hp_r h m 11 = some (m + 8) ∧ hp_r h m 12 = some (m + 9) ∧ hp_r h m 14 = some (m + 10) ∧ hp_r h m 15 = some (m + 11) ∧ hp_r h m 16 = some (m + 12) ∧ hp_r h m 17 = some (m + 13)
theorem sr_o {g : Gx} {h : Hp} {m : Nat} (S : ShR g h m) : isO g h m 4 := S.1
theorem sr_a1 {g : Gx} {h : Hp} {m : Nat} (S : ShR g h m) : isA g h (m + 1) 0 40 := S.2.1
theorem sr_a2 {g : Gx} {h : Hp} {m : Nat} (S : ShR g h m) : isA g h (m + 2) 0 40 := S.2.2.1
theorem sr_a3 {g : Gx} {h : Hp} {m : Nat} (S : ShR g h m) : isA g h (m + 3) 0 160 := S.2.2.2.1
theorem sr_a4 {g : Gx} {h : Hp} {m : Nat} (S : ShR g h m) : isA g h (m + 4) 0 4 := S.2.2.2.2.1
theorem sr_a5 {g : Gx} {h : Hp} {m : Nat} (S : ShR g h m) : isA g h (m + 5) 0 4 := S.2.2.2.2.2.1
theorem sr_a6 {g : Gx} {h : Hp} {m : Nat} (S : ShR g h m) : isA g h (m + 6) 2 96 := S.2.2.2.2.2.2.1
theorem sr_a7 {g : Gx} {h : Hp} {m : Nat} (S : ShR g h m) : isA g h (m + 7) 0 160 := S.2.2.2.2.2.2.2.1
theorem sr_a8 {g : Gx} {h : Hp} {m : Nat} (S : ShR g h m) : isA g h (m + 8) 0 160 := S.2.2.2.2.2.2.2.2.1
theorem sr_a9 {g : Gx} {h : Hp} {m : Nat} (S : ShR g h m) : isA g h (m + 9) 0 160 := S.2.2.2.2.2.2.2.2.2.1
theorem sr_a10 {g : Gx} {h : Hp} {m : Nat} (S : ShR g h m) : isA g h (m + 10) 0 200 := S.2.2.2.2.2.2.2.2.2.2.1
theorem sr_a11 {g : Gx} {h : Hp} {m : Nat} (S : ShR g h m) : isA g h (m + 11) 0 200 := S.2.2.2.2.2.2.2.2.2.2.2.1
theorem sr_a12 {g : Gx} {h : Hp} {m : Nat} (S : ShR g h m) : isA g h (m + 12) 0 200 := S.2.2.2.2.2.2.2.2.2.2.2.2.1
theorem sr_a13 {g : Gx} {h : Hp} {m : Nat} (S : ShR g h m) : isA g h (m + 13) 1 200 := S.2.2.2.2.2.2.2.2.2.2.2.2.2.1
theorem sr_cell {g : Gx} {h : Hp} {m : Nat} (S : ShR g h m) : hp_r h m 2 = some (m + 1) := S.2.2.2.2.2.2.2.2.2.2.2.2.2.2.1
theorem sr_areas {g : Gx} {h : Hp} {m : Nat} (S : ShR g h m) : hp_r h m 3 = some (m + 2) := S.2.2.2.2.2.2.2.2.2.2.2.2.2.2.2.1
theorem sr_count {g : Gx} {h : Hp} {m : Nat} (S : ShR g h m) : hp_r h m 4 = some (m + 3) := S.2.2.2.2.2.2.2.2.2.2.2.2.2.2.2.2.1
theorem sr_rate {g : Gx} {h : Hp} {m : Nat} (S : ShR g h m) : hp_r h m 7 = some (m + 4) := S.2.2.2.2.2.2.2.2.2.2.2.2.2.2.2.2.2.1
theorem sr_hours {g : Gx} {h : Hp} {m : Nat} (S : ShR g h m) : hp_r h m 8 = some (m + 5) := S.2.2.2.2.2.2.2.2.2.2.2.2.2.2.2.2.2.2.1
theorem sr_barred {g : Gx} {h : Hp} {m : Nat} (S : ShR g h m) : hp_r h m 9 = some (m + 6) := S.2.2.2.2.2.2.2.2.2.2.2.2.2.2.2.2.2.2.2.1
theorem sr_plan {g : Gx} {h : Hp} {m : Nat} (S : ShR g h m) : hp_r h m 10 = some (m + 7) := S.2.2.2.2.2.2.2.2.2.2.2.2.2.2.2.2.2.2.2.2.1
theorem sr_trial {g : Gx} {h : Hp} {m : Nat} (S : ShR g h m) : hp_r h m 11 = some (m + 8) := S.2.2.2.2.2.2.2.2.2.2.2.2.2.2.2.2.2.2.2.2.2.1
theorem sr_looked {g : Gx} {h : Hp} {m : Nat} (S : ShR g h m) : hp_r h m 12 = some (m + 9) := S.2.2.2.2.2.2.2.2.2.2.2.2.2.2.2.2.2.2.2.2.2.2.1
theorem sr_lookLooker {g : Gx} {h : Hp} {m : Nat} (S : ShR g h m) : hp_r h m 14 = some (m + 10) := S.2.2.2.2.2.2.2.2.2.2.2.2.2.2.2.2.2.2.2.2.2.2.2.1
theorem sr_lookCell {g : Gx} {h : Hp} {m : Nat} (S : ShR g h m) : hp_r h m 15 = some (m + 11) := S.2.2.2.2.2.2.2.2.2.2.2.2.2.2.2.2.2.2.2.2.2.2.2.2.1
theorem sr_lookHours {g : Gx} {h : Hp} {m : Nat} (S : ShR g h m) : hp_r h m 16 = some (m + 12) := S.2.2.2.2.2.2.2.2.2.2.2.2.2.2.2.2.2.2.2.2.2.2.2.2.2.1
theorem sr_lookTold {g : Gx} {h : Hp} {m : Nat} (S : ShR g h m) : hp_r h m 17 = some (m + 13) := S.2.2.2.2.2.2.2.2.2.2.2.2.2.2.2.2.2.2.2.2.2.2.2.2.2.2
def inR (m : Nat) (a : Nat) : Prop := m ≤ a ∧ a < m + 14
theorem sr_fr {g : Gx} {P : Nat → Prop} {h h1 : Hp} {m : Nat} (S : ShR g h m) (x : hp_fr P h h1) (e : hp_r h1 m = hp_r h m) : ShR g h1 m := by
  unfold ShR
  rw [e]
  exact ⟨fr_O x (sr_o S), fr_A x (sr_a1 S), fr_A x (sr_a2 S), fr_A x (sr_a3 S), fr_A x (sr_a4 S), fr_A x (sr_a5 S), fr_A x (sr_a6 S), fr_A x (sr_a7 S), fr_A x (sr_a8 S), fr_A x (sr_a9 S), fr_A x (sr_a10 S), fr_A x (sr_a11 S), fr_A x (sr_a12 S), fr_A x (sr_a13 S), sr_cell S, sr_areas S, sr_count S, sr_rate S, sr_hours S, sr_barred S, sr_plan S, sr_trial S, sr_looked S, sr_lookLooker S, sr_lookCell S, sr_lookHours S, sr_lookTold S⟩
def PR (g : Gx) (h : Hp) (m : Nat) (s : St) : Prop := ShR g h m ∧ (hp_i h m 0 = nI (s_cells s)) ∧ (hp_i h m 1 = nI (s_told s)) ∧ (∀ k, k < s_told s → hp_i h (m + 1) k = nI (s_num s k)) ∧ (∀ k, k < s_told s → hp_i h (m + 2) k = nI (s_ar s k)) ∧ (∀ t k, t < 4 → k < s_told s → hp_i h (m + 3) (40 * t + k) = nI (s_cn s t k)) ∧ (hp_i h m 5 = nI (s_things s)) ∧ (hp_i h m 6 = nI (s_lkr s)) ∧ (∀ l, l < s_lkr s → hp_i h (m + 4) l = nI (s_rt s l)) ∧ (∀ l, l < s_lkr s → hp_i h (m + 5) l = nI (s_hr s l)) ∧ (∀ l q, l < 4 → q < 24 → hp_i h (m + 6) (24 * l + q) = bI (s_bd s l q)) ∧ (∀ l k, l < 4 → k < 40 → hp_i h (m + 7) (40 * l + k) = nI (s_pl s l k)) ∧ (∀ l k, l < 4 → k < s_told s → hp_i h (m + 9) (40 * l + k) = nI (s_ld s l k)) ∧ (hp_i h m 13 = nI (s_lks s)) ∧ (∀ q, q < s_lks s → hp_i h (m + 10) q = nI (s_gl s q)) ∧ (∀ q, q < s_lks s → hp_i h (m + 11) q = nI (s_gc s q)) ∧ (∀ q, q < s_lks s → hp_i h (m + 12) q = nI (s_gh s q)) ∧ (∀ q, q < s_lks s → hp_j h (m + 13) q = lN (s_gt s q)) ∧ (hp_i h m 18 = sI (s_seen s)) ∧ (hp_j h m 19 = lN (s_ab s)) ∧ (hp_j h m 20 = lN (s_bl s))
theorem pr_S {g : Gx} {h : Hp} {m : Nat} {s : St} (P : PR g h m s) : ShR g h m := P.1
theorem pr_cells {g : Gx} {h : Hp} {m : Nat} {s : St} (P : PR g h m s) : hp_i h m 0 = nI (s_cells s) := P.2.1
theorem pr_told {g : Gx} {h : Hp} {m : Nat} {s : St} (P : PR g h m s) : hp_i h m 1 = nI (s_told s) := P.2.2.1
theorem pr_num {g : Gx} {h : Hp} {m : Nat} {s : St} (P : PR g h m s) : ∀ k, k < s_told s → hp_i h (m + 1) k = nI (s_num s k) := P.2.2.2.1
theorem pr_ar {g : Gx} {h : Hp} {m : Nat} {s : St} (P : PR g h m s) : ∀ k, k < s_told s → hp_i h (m + 2) k = nI (s_ar s k) := P.2.2.2.2.1
theorem pr_cn {g : Gx} {h : Hp} {m : Nat} {s : St} (P : PR g h m s) : ∀ t k, t < 4 → k < s_told s → hp_i h (m + 3) (40 * t + k) = nI (s_cn s t k) := P.2.2.2.2.2.1
theorem pr_things {g : Gx} {h : Hp} {m : Nat} {s : St} (P : PR g h m s) : hp_i h m 5 = nI (s_things s) := P.2.2.2.2.2.2.1
theorem pr_lkr {g : Gx} {h : Hp} {m : Nat} {s : St} (P : PR g h m s) : hp_i h m 6 = nI (s_lkr s) := P.2.2.2.2.2.2.2.1
theorem pr_rt {g : Gx} {h : Hp} {m : Nat} {s : St} (P : PR g h m s) : ∀ l, l < s_lkr s → hp_i h (m + 4) l = nI (s_rt s l) := P.2.2.2.2.2.2.2.2.1
theorem pr_hr {g : Gx} {h : Hp} {m : Nat} {s : St} (P : PR g h m s) : ∀ l, l < s_lkr s → hp_i h (m + 5) l = nI (s_hr s l) := P.2.2.2.2.2.2.2.2.2.1
theorem pr_bd {g : Gx} {h : Hp} {m : Nat} {s : St} (P : PR g h m s) : ∀ l q, l < 4 → q < 24 → hp_i h (m + 6) (24 * l + q) = bI (s_bd s l q) := P.2.2.2.2.2.2.2.2.2.2.1
theorem pr_pl {g : Gx} {h : Hp} {m : Nat} {s : St} (P : PR g h m s) : ∀ l k, l < 4 → k < 40 → hp_i h (m + 7) (40 * l + k) = nI (s_pl s l k) := P.2.2.2.2.2.2.2.2.2.2.2.1
theorem pr_ld {g : Gx} {h : Hp} {m : Nat} {s : St} (P : PR g h m s) : ∀ l k, l < 4 → k < s_told s → hp_i h (m + 9) (40 * l + k) = nI (s_ld s l k) := P.2.2.2.2.2.2.2.2.2.2.2.2.1
theorem pr_lks {g : Gx} {h : Hp} {m : Nat} {s : St} (P : PR g h m s) : hp_i h m 13 = nI (s_lks s) := P.2.2.2.2.2.2.2.2.2.2.2.2.2.1
theorem pr_gl {g : Gx} {h : Hp} {m : Nat} {s : St} (P : PR g h m s) : ∀ q, q < s_lks s → hp_i h (m + 10) q = nI (s_gl s q) := P.2.2.2.2.2.2.2.2.2.2.2.2.2.2.1
theorem pr_gc {g : Gx} {h : Hp} {m : Nat} {s : St} (P : PR g h m s) : ∀ q, q < s_lks s → hp_i h (m + 11) q = nI (s_gc s q) := P.2.2.2.2.2.2.2.2.2.2.2.2.2.2.2.1
theorem pr_gh {g : Gx} {h : Hp} {m : Nat} {s : St} (P : PR g h m s) : ∀ q, q < s_lks s → hp_i h (m + 12) q = nI (s_gh s q) := P.2.2.2.2.2.2.2.2.2.2.2.2.2.2.2.2.1
theorem pr_gt {g : Gx} {h : Hp} {m : Nat} {s : St} (P : PR g h m s) : ∀ q, q < s_lks s → hp_j h (m + 13) q = lN (s_gt s q) := P.2.2.2.2.2.2.2.2.2.2.2.2.2.2.2.2.2.1
theorem pr_seen {g : Gx} {h : Hp} {m : Nat} {s : St} (P : PR g h m s) : hp_i h m 18 = sI (s_seen s) := P.2.2.2.2.2.2.2.2.2.2.2.2.2.2.2.2.2.2.1
theorem pr_ab {g : Gx} {h : Hp} {m : Nat} {s : St} (P : PR g h m s) : hp_j h m 19 = lN (s_ab s) := P.2.2.2.2.2.2.2.2.2.2.2.2.2.2.2.2.2.2.2.1
theorem pr_bl {g : Gx} {h : Hp} {m : Nat} {s : St} (P : PR g h m s) : hp_j h m 20 = lN (s_bl s) := P.2.2.2.2.2.2.2.2.2.2.2.2.2.2.2.2.2.2.2.2
/-- the picture rests on its own cells alone -/
theorem pr_fr {g : Gx} {h h1 : Hp} {m : Nat} {s : St} {B : Nat → Prop} (P : PR g h m s) (x : hp_fr B h h1) (e : ∀ a, inR m a → ¬ B a) : PR g h1 m s := by
  have hi : ∀ a, inR m a → ∀ j, hp_i h1 a j = hp_i h a j := fun a ha j => fr_i x (e a ha) j
  have hj : ∀ a, inR m a → ∀ j, hp_j h1 a j = hp_j h a j := fun a ha j => fr_j x (e a ha) j
  have hm : ∀ q, q < 14 → inR m (m + q) := fun q hq => ⟨by omega, by omega⟩
  have hm0 : inR m m := ⟨by omega, by omega⟩
  exact ⟨sr_fr (pr_S P) x (funext fun j => fr_r x (e m hm0) j),
    ((hi _ hm0 _).trans (pr_cells P)),
    ((hi _ hm0 _).trans (pr_told P)),
    (fun k z0 => (hi _ (hm 1 (by decide)) _).trans (pr_num P k z0)),
    (fun k z0 => (hi _ (hm 2 (by decide)) _).trans (pr_ar P k z0)),
    (fun t k z0 z1 => (hi _ (hm 3 (by decide)) _).trans (pr_cn P t k z0 z1)),
    ((hi _ hm0 _).trans (pr_things P)),
    ((hi _ hm0 _).trans (pr_lkr P)),
    (fun l z0 => (hi _ (hm 4 (by decide)) _).trans (pr_rt P l z0)),
    (fun l z0 => (hi _ (hm 5 (by decide)) _).trans (pr_hr P l z0)),
    (fun l q z0 z1 => (hi _ (hm 6 (by decide)) _).trans (pr_bd P l q z0 z1)),
    (fun l k z0 z1 => (hi _ (hm 7 (by decide)) _).trans (pr_pl P l k z0 z1)),
    (fun l k z0 z1 => (hi _ (hm 9 (by decide)) _).trans (pr_ld P l k z0 z1)),
    ((hi _ hm0 _).trans (pr_lks P)),
    (fun q z0 => (hi _ (hm 10 (by decide)) _).trans (pr_gl P q z0)),
    (fun q z0 => (hi _ (hm 11 (by decide)) _).trans (pr_gc P q z0)),
    (fun q z0 => (hi _ (hm 12 (by decide)) _).trans (pr_gh P q z0)),
    (fun q z0 => (hj _ (hm 13 (by decide)) _).trans (pr_gt P q z0)),
    ((hi _ hm0 _).trans (pr_seen P)),
    ((hj _ hm0 _).trans (pr_ab P)),
    ((hj _ hm0 _).trans (pr_bl P))⟩
end
section
theorem c_R_isCell {g : Gx} {h : Hp} {m d : Nat} {s : St} {Q : Option Value → Hp → Prop} (P : PR g h m s) (I : Inv s) (c : Int32) (hQ : Q (some (.int (bI (isc (nI (s_cells s)) c)))) h) : Ct g M_R_isCell d 0 0 [.ref m, .int c] h Q := by
  have S := pr_S P
  have bT := v_told I
  have bL := v_lkr I
  refine ct_of ok_R_isCell (by decide) (Nat.le_of_ble_eq_true rfl) [some (.ref m), some (.int c)] rfl rfl ?_
  skip
  refine k_iload_n rfl rfl ?_
  refine k_if_lt rfl (fun c1 => ?_) (fun c1 => ?_)
  · refine k_iconst (v := nI 0) rfl (by decide) ?_
    refine k_zret rfl rfl (by decide) (Nat.le_refl _) (Nat.le_refl _) ?_
    rw [show (nI 0 : Int32) = bI (isc (nI (s_cells s)) c) from by simp only [isc, bI]; simp [nI_0, nI_one, Int32.not_le.mpr c1]]; exact hQ
  · refine k_iload_n rfl rfl ?_
    refine k_aload_n rfl rfl ?_
    refine k_gI rfl rfl (sr_o S) (pr_cells P) ?_
    refine k_icmp_ge rfl (fun c9 => ?_) (fun c9 => ?_)
    · refine k_iconst (v := nI 0) rfl (by decide) ?_
      refine k_zret rfl rfl (by decide) (Nat.le_refl _) (Nat.le_refl _) ?_
      rw [show (nI 0 : Int32) = bI (isc (nI (s_cells s)) c) from by simp only [isc, bI]; simp [nI_0, nI_one, Int32.not_lt.mpr c9]]; exact hQ
    · refine k_iconst (v := nI 1) rfl (by decide) ?_
      refine k_goto rfl ?_
      refine k_zret rfl rfl (by decide) (Nat.le_refl _) (Nat.le_refl _) ?_
      rw [show (nI 1 : Int32) = bI (isc (nI (s_cells s)) c) from by simp only [isc, bI]; simp [nI_0, nI_one, Int32.not_lt.mp c1, Int32.not_le.mp c9]]; exact hQ
theorem c_R_isLooker {g : Gx} {h : Hp} {m d : Nat} {s : St} {Q : Option Value → Hp → Prop} (P : PR g h m s) (I : Inv s) (c : Int32) (hQ : Q (some (.int (bI (isc (nI (s_lkr s)) c)))) h) : Ct g M_R_isLooker d 0 0 [.ref m, .int c] h Q := by
  have S := pr_S P
  have bT := v_told I
  have bL := v_lkr I
  refine ct_of ok_R_isLooker (by decide) (Nat.le_of_ble_eq_true rfl) [some (.ref m), some (.int c)] rfl rfl ?_
  skip
  refine k_iload_n rfl rfl ?_
  refine k_if_lt rfl (fun c1 => ?_) (fun c1 => ?_)
  · refine k_iconst (v := nI 0) rfl (by decide) ?_
    refine k_zret rfl rfl (by decide) (Nat.le_refl _) (Nat.le_refl _) ?_
    rw [show (nI 0 : Int32) = bI (isc (nI (s_lkr s)) c) from by simp only [isc, bI]; simp [nI_0, nI_one, Int32.not_le.mpr c1]]; exact hQ
  · refine k_iload_n rfl rfl ?_
    refine k_aload_n rfl rfl ?_
    refine k_gI rfl rfl (sr_o S) (pr_lkr P) ?_
    refine k_icmp_ge rfl (fun c9 => ?_) (fun c9 => ?_)
    · refine k_iconst (v := nI 0) rfl (by decide) ?_
      refine k_zret rfl rfl (by decide) (Nat.le_refl _) (Nat.le_refl _) ?_
      rw [show (nI 0 : Int32) = bI (isc (nI (s_lkr s)) c) from by simp only [isc, bI]; simp [nI_0, nI_one, Int32.not_lt.mpr c9]]; exact hQ
    · refine k_iconst (v := nI 1) rfl (by decide) ?_
      refine k_goto rfl ?_
      refine k_zret rfl rfl (by decide) (Nat.le_refl _) (Nat.le_refl _) ?_
      rw [show (nI 1 : Int32) = bI (isc (nI (s_lkr s)) c) from by simp only [isc, bI]; simp [nI_0, nI_one, Int32.not_lt.mp c1, Int32.not_le.mp c9]]; exact hQ
theorem c_R_place {g : Gx} {h : Hp} {m d : Nat} {s : St} {Q : Option Value → Hp → Prop} (P : PR g h m s) (I : Inv s) (c : Int32) (hQ : Q (some (.int (sI (plS s c)))) h) : Ct g M_R_place d 0 0 [.ref m, .int c] h Q := by
  have S := pr_S P
  have bT := v_told I
  have bL := v_lkr I
  refine ct_of ok_R_place (by decide) (Nat.le_of_ble_eq_true rfl) [some (.ref m), some (.int c), none] rfl rfl ?_
  refine k_iconst (v := nI 0) rfl (by decide) ?_
  refine k_ist2 rfl rfl ?_
  have e0 : plS s c = plc (hp_i h (m + 1)) c (s_told s) 0 := plc_cong _ _ (fun k _ hk => (pr_num P k (by omega)).symm)
  rw [e0] at hQ
  suffices H : ∀ (q i : Nat), i + q = s_told s → plc (hp_i h (m + 1)) c (s_told s) 0 = plc (hp_i h (m + 1)) c q i → Om g M_R_place d Q h 2 [some (.ref m), some (.int c), some (.int (nI i))] [] from H _ 0 (Nat.zero_add _) rfl
  intro q
  induction q with
  | zero =>
    intro i hi e
    refine k_iload_n rfl rfl ?_
    refine k_aload_n rfl rfl ?_
    refine k_gI rfl rfl (sr_o S) (pr_told P) ?_
    refine kn_ge rfl (by omega) (by omega) (fun c7 => ?_) (fun c7 => ?_)
    · refine k_iconst (v := -1) rfl (by decide) ?_
      refine k_iret rfl rfl (Nat.le_refl _) (Nat.le_refl _) ?_
      rw [e] at hQ; exact hQ
    · exact absurd c7 (by omega)
  | succ q ih =>
    intro i hi e
    refine k_iload_n rfl rfl ?_
    refine k_aload_n rfl rfl ?_
    refine k_gI rfl rfl (sr_o S) (pr_told P) ?_
    refine kn_ge rfl (by omega) (by omega) (fun c7 => ?_) (fun c7 => ?_)
    · exact absurd c7 (by omega)
    · refine k_aload_n rfl rfl ?_
      refine k_getR rfl rfl (sr_o S) (sr_cell S) ?_
      refine k_iload_n rfl rfl ?_
      refine k_iA rfl (sr_a1 S) rfl (by omega) (by decide) rfl ?_
      refine k_iload_n rfl rfl ?_
      refine k_icmp_ne rfl (fun c17 => ?_) (fun c17 => ?_)
      · refine k_incN2 rfl rfl ?_
        refine k_goto rfl ?_
        exact ih (i + 1) (by omega) (by rw [e]; simp only [plc]; rw [if_neg c17])
      · refine k_iload_n rfl rfl ?_
        refine k_iret rfl rfl (Nat.le_refl _) (Nat.le_refl _) ?_
        rw [e] at hQ; simp only [plc] at hQ; rw [if_pos c17] at hQ; exact hQ
def zeroP (s : St) : St := w_pl s (fun _ _ => 0)
theorem PR_pl {g : Gx} {h h1 : Hp} {m : Nat} {s : St} {f : Nat → Nat → Nat} (P : PR g h m s) (x : hp_fr (fun a => a = m + 7) h h1) (hr : hp_r h1 = hp_r h) (e : ∀ l k, l < 4 → k < 40 → hp_i h1 (m + 7) (40 * l + k) = nI (f l k)) : PR g h1 m (w_pl s f) := by
  have hi : ∀ a, a ≠ m + 7 → ∀ j, hp_i h1 a j = hp_i h a j := fun a ha j => fr_i x ha j
  have hj : ∀ a, a ≠ m + 7 → ∀ j, hp_j h1 a j = hp_j h a j := fun a ha j => fr_j x ha j
  exact ⟨sr_fr (pr_S P) x (by rw [hr]), ((hi _ (by omega) _).trans (pr_cells (s := s) P)), ((hi _ (by omega) _).trans (pr_told (s := s) P)), (fun k z => (hi _ (by omega) _).trans (pr_num (s := s) P k z)), (fun k z => (hi _ (by omega) _).trans (pr_ar (s := s) P k z)), (fun t k z y => (hi _ (by omega) _).trans (pr_cn (s := s) P t k z y)), ((hi _ (by omega) _).trans (pr_things (s := s) P)), ((hi _ (by omega) _).trans (pr_lkr (s := s) P)), (fun k z => (hi _ (by omega) _).trans (pr_rt (s := s) P k z)), (fun k z => (hi _ (by omega) _).trans (pr_hr (s := s) P k z)), (fun t k z y => (hi _ (by omega) _).trans (pr_bd (s := s) P t k z y)), e, (fun t k z y => (hi _ (by omega) _).trans (pr_ld (s := s) P t k z y)), ((hi _ (by omega) _).trans (pr_lks (s := s) P)), (fun k z => (hi _ (by omega) _).trans (pr_gl (s := s) P k z)), (fun k z => (hi _ (by omega) _).trans (pr_gc (s := s) P k z)), (fun k z => (hi _ (by omega) _).trans (pr_gh (s := s) P k z)), (fun k z => (hj _ (by omega) _).trans (pr_gt (s := s) P k z)), ((hi _ (by omega) _).trans (pr_seen (s := s) P)), ((hj _ (by omega) _).trans (pr_ab (s := s) P)), ((hj _ (by omega) _).trans (pr_bl (s := s) P))⟩
theorem c_R_changed {g : Gx} {h : Hp} {m d : Nat} {s : St} {Q : Option Value → Hp → Prop} (P : PR g h m s) (hQ : ∀ h1, hp_fr (inR m) h h1 → PR g h1 m (zeroP s) → Q none h1) : Ct g M_R_changed d 0 0 [.ref m] h Q := by
  have S := pr_S P
  refine ct_of ok_R_changed (by decide) (Nat.le_of_ble_eq_true rfl) [some (.ref m), none] rfl rfl ?_
  refine k_iconst (v := nI 0) rfl (by decide) ?_
  refine k_ist1 rfl rfl ?_
  suffices H : ∀ (q i : Nat) (h1 : Hp), i + q = 160 → hp_fr (fun a => a = m + 7) h h1 → hp_r h1 = hp_r h → (∀ j, j < i → hp_i h1 (m + 7) j = 0) → Om g M_R_changed d Q h1 2 [some (.ref m), some (.int (nI i))] [] from H 160 0 h rfl fr_rf rfl (fun j hj => absurd hj (Nat.not_lt_zero j))
  intro q
  induction q with
  | zero =>
    intro i h1 hi hF hr hz
    have S := sr_fr S hF (by rw [hr])
    refine k_iload_n rfl rfl ?_
    refine k_sipush (v := nI 160) rfl (by decide) ?_
    refine kn_ge rfl (by omega) (by omega) (fun c6 => ?_) (fun c6 => ?_)
    · refine k_vret rfl rfl (Nat.le_refl _) (Nat.le_refl _) ?_
      exact hQ h1 (fr_mono hF (fun a e => ⟨by omega, by omega⟩)) (PR_pl P hF hr (fun l k hl hk => hz _ (by omega)))
    · exact absurd c6 (by omega)
  | succ q ih =>
    intro i h1 hi hF hr hz
    have S := sr_fr S hF (by rw [hr])
    refine k_iload_n rfl rfl ?_
    refine k_sipush (v := nI 160) rfl (by decide) ?_
    refine kn_ge rfl (by omega) (by omega) (fun c6 => ?_) (fun c6 => ?_)
    · exact absurd c6 (by omega)
    · refine k_aload_n rfl rfl ?_
      refine k_getR rfl rfl (sr_o S) (sr_plan S) ?_
      refine k_iload_n rfl rfl ?_
      refine k_iconst (v := nI 0) rfl (by decide) ?_
      refine k_iS rfl (sr_a7 S) rfl (by omega) (by decide) ?_
      refine k_incN1 rfl rfl ?_
      refine k_goto rfl ?_
      refine ih (i + 1) _ (by omega) (fr_tr hF (fr_ui rfl)) hr (fun j hj => ?_)
      rw [i_ui]
      by_cases e : j = i
      · rw [if_pos ⟨rfl, e⟩]; rfl
      · rw [if_neg (fun z => e z.2)]; exact hz j (by omega)
def wtN (s : St) (k : Nat) : Nat := s_cn s 0 k + s_cn s 1 k + s_cn s 2 k + s_cn s 3 k
theorem wt_le {s : St} (I : Inv s) {k : Nat} (hk : k < s_told s) : wtN s k ≤ 4000 := by
  have h0 := v_cn I 0 k (by decide) hk
  have h1 := v_cn I 1 k (by decide) hk
  have h2 := v_cn I 2 k (by decide) hk
  have h3 := v_cn I 3 k (by decide) hk
  unfold wtN; omega
theorem c_R_weight {g : Gx} {h : Hp} {m d : Nat} {s : St} {Q : Option Value → Hp → Prop} (P : PR g h m s) (I : Inv s) {k : Nat} (hk : k < s_told s) (hQ : Q (some (.int (nI (wtN s k)))) h) : Ct g M_R_weight d 0 0 [.ref m, .int (nI k)] h Q := by
  have S := pr_S P
  have bT := v_told I
  have bL := v_lkr I
  refine ct_of ok_R_weight (by decide) (Nat.le_of_ble_eq_true rfl) [some (.ref m), some (.int (nI k))] rfl rfl ?_
  refine k_aload_n rfl rfl ?_
  refine k_getR rfl rfl (sr_o S) (sr_count S) ?_
  refine k_iload_n rfl rfl ?_
  refine k_iA rfl (sr_a3 S) (j := 40 * 0 + k) (by rw [Nat.mul_zero, Nat.zero_add]) (by omega) (by decide) (pr_cn P 0 k (by decide) hk) ?_
  refine k_aload_n rfl rfl ?_
  refine k_getR rfl rfl (sr_o S) (sr_count S) ?_
  refine k_bipush (v := nI 40) rfl (by decide) ?_
  refine k_iload_n rfl rfl ?_
  refine k_iaddN rfl ?_
  refine k_iA rfl (sr_a3 S) (j := 40 * 1 + k) rfl (by omega) (by decide) (pr_cn P 1 k (by decide) hk) ?_
  refine k_iaddN rfl ?_
  refine k_aload_n rfl rfl ?_
  refine k_getR rfl rfl (sr_o S) (sr_count S) ?_
  refine k_bipush (v := nI 80) rfl (by decide) ?_
  refine k_iload_n rfl rfl ?_
  refine k_iaddN rfl ?_
  refine k_iA rfl (sr_a3 S) (j := 40 * 2 + k) rfl (by omega) (by decide) (pr_cn P 2 k (by decide) hk) ?_
  refine k_iaddN rfl ?_
  refine k_aload_n rfl rfl ?_
  refine k_getR rfl rfl (sr_o S) (sr_count S) ?_
  refine k_bipush (v := nI 120) rfl (by decide) ?_
  refine k_iload_n rfl rfl ?_
  refine k_iaddN rfl ?_
  refine k_iA rfl (sr_a3 S) (j := 40 * 3 + k) rfl (by omega) (by decide) (pr_cn P 3 k (by decide) hk) ?_
  refine k_iaddN rfl ?_
  refine k_iret rfl rfl (Nat.le_refl _) (Nat.le_refl _) ?_
  exact hQ
end
section
def WN : Nat := 268738560000
/-- what one looker misses, in 720ths -/
def ms1 (s : St) (f : Nat → Nat) (k l : Nat) : Nat := 720 / s_ar s k * (s_ar s k - min (s_ar s k) (if l < s_lkr s then f l * s_rt s l else 0))
def msP (s : St) (f : Nat → Nat) (k : Nat) : Nat → Nat
  | 0 => 1
  | l + 1 => msP s f k l * ms1 s f k l
def msN (s : St) (f : Nat → Nat) (k : Nat) : Nat := msP s f k 4
theorem ms1_le (s : St) (f : Nat → Nat) (k l : Nat) : ms1 s f k l ≤ 720 := by
  unfold ms1
  refine Nat.le_trans (Nat.mul_le_mul_left _ (Nat.sub_le _ _)) ?_
  exact Nat.div_mul_le_self 720 (s_ar s k)
theorem msP_le (s : St) (f : Nat → Nat) (k : Nat) : ∀ l, msP s f k l ≤ 720 ^ l
  | 0 => Nat.le_refl _
  | l + 1 => by
    rw [Nat.pow_succ]
    exact Nat.mul_le_mul (msP_le s f k l) (ms1_le s f k l)
theorem msN_le (s : St) (f : Nat → Nat) (k : Nat) : msN s f k ≤ 268738560000 := msP_le s f k 4
def wo (s : St) (F : Nat → Nat → Nat) : Nat → Nat
  | 0 => 0
  | k + 1 => wo s F k + wtN s k * (268738560000 - msN s (fun l => F l k) k)
theorem wo_le {s : St} (I : Inv s) (F : Nat → Nat → Nat) : ∀ k, k ≤ s_told s → wo s F k ≤ k * (4000 * 268738560000)
  | 0, _ => by simp [wo]
  | k + 1, h => by
    have h1 := wo_le I F k (by omega)
    have h2 := Nat.mul_le_mul (wt_le I (k := k) (by omega)) (Nat.sub_le 268738560000 (msN s (fun l => F l k) k))
    simp only [wo]
    omega
def usN (s : St) (l : Nat) : Nat → Nat
  | 0 => 0
  | q + 1 => usN s l q + (if s_bd s l q then 0 else 1)
theorem usN_le (s : St) (l : Nat) : ∀ q, usN s l q ≤ q
  | 0 => Nat.le_refl _
  | q + 1 => by
    have := usN_le s l q
    simp only [usN]
    split <;> omega
def us (s : St) (l : Nat) : Nat := usN s l (s_hr s l)
def gv (F : Nat → Nat → Nat) (l : Nat) : Nat → Nat
  | 0 => 0
  | k + 1 => gv F l k + F l k
theorem gv_le {F : Nat → Nat → Nat} {l B : Nat} : ∀ n, (∀ k, k < n → F l k ≤ B) → gv F l n ≤ n * B
  | 0, _ => by simp [gv]
  | n + 1, h => by
    have h1 := gv_le n (fun k hk => h k (by omega))
    have h2 := h n (by omega)
    simp only [gv]
    rw [Nat.succ_mul]; omega
def szN (s : St) : Nat → Nat
  | 0 => 0
  | l + 1 => szN s l + gv (s_pl s) l (s_told s)
def alN (s : St) : Nat → Nat
  | 0 => 0
  | k + 1 => alN s k + s_cn s 0 k
theorem alN_le {s : St} (I : Inv s) : ∀ k, k ≤ s_told s → alN s k ≤ k * 1000
  | 0, _ => by simp [alN]
  | k + 1, h => by
    have h1 := alN_le I k (by omega)
    have h2 := v_cn I 0 k (by decide) (by omega)
    simp only [alN]; omega
def lfN (s : St) : Nat → Nat
  | 0 => 0
  | k + 1 => lfN s k + s_cn s 0 k * msN s (fun l => s_ld s l k) k
theorem lf1_le {s : St} (I : Inv s) {k : Nat} (h : k < s_told s) : s_cn s 0 k * msN s (fun l => s_ld s l k) k ≤ 1000 * 268738560000 := Nat.mul_le_mul (v_cn I 0 k (by decide) h) (msN_le _ _ _)
theorem lfN_le {s : St} (I : Inv s) : ∀ k, k ≤ s_told s → lfN s k ≤ k * (1000 * 268738560000)
  | 0, _ => by simp [lfN]
  | k + 1, h => by
    have h1 := lfN_le I k (by omega)
    have h2 := lf1_le I (k := k) (by omega)
    simp only [lfN]; omega
theorem lN_W : (268738560000 : Int64) = lN 268738560000 := by decide +kernel
theorem c0_ix (k : Nat) : nI k = nI (40 * 0 + k) := by rw [Nat.mul_zero, Nat.zero_add]
theorem c_R_missed {g : Gx} {h : Hp} {m d : Nat} {s : St} {Q : Option Value → Hp → Prop} (P : PR g h m s) (I : Inv s) {ra k : Nat} {f : Nat → Nat} (hA : isA g h ra 0 160) (hk : k < s_told s) (hrow : ∀ l, l < s_lkr s → hp_i h ra (40 * l + k) = nI (f l)) (hfb : ∀ l, l < s_lkr s → f l ≤ 20000) (hQ : Q (some (.long (lN (msN s f k)))) h) : Ct g M_R_missed (d) 0 0 [.ref m, .ref ra, .int (nI k)] h Q := by
  have S := pr_S P
  have bT := v_told I
  have bL := v_lkr I
  refine ct_of ok_R_missed (by decide) (Nat.le_of_ble_eq_true rfl) [some (.ref m), some (.ref ra), some (.int (nI k)), none, none, none, none, none] rfl rfl ?_
  have ha := v_ar I k hk
  have hal := ar_le I hk
  refine k_lconst (v := lN 1) rfl (by decide) ?_
  refine k_lst3 rfl rfl ?_
  refine k_iconst (v := nI 0) rfl (by decide) ?_
  refine k_ist5 rfl rfl ?_
  suffices H : ∀ (q l : Nat) (z : Option Value), l + q = 4 → Om g M_R_missed d Q h 5 [some (.ref m), some (.ref ra), some (.int (nI k)), some (.long (lN (msP s f k l))), none, some (.int (nI l)), z, none] [] from H 4 0 none rfl
  intro q
  induction q with
  | zero =>
    intro l z hl
    obtain rfl : l = 4 := by omega
    refine k_iload rfl rfl ?_
    refine k_iconst (v := nI 4) rfl (by decide) ?_
    refine kn_ge rfl (by omega) (by omega) (fun c8 => ?_) (fun c8 => ?_)
    · refine k_lload_n rfl rfl ?_
      refine k_lret rfl rfl (Nat.le_refl _) (Nat.le_refl _) ?_
      exact hQ
    · exact absurd c8 (by omega)
  | succ q ih =>
    intro l z hl
    have J2 : ∀ v, v = min (s_ar s k) (if l < s_lkr s then f l * s_rt s l else 0) → Om g M_R_missed d Q h 72 [some (.ref m), some (.ref ra), some (.int (nI k)), some (.long (lN (msP s f k l))), none, some (.int (nI l)), some (.long (lN v)), none] [] := by
      intro v hv
      have hvle : v ≤ s_ar s k := by rw [hv]; exact Nat.min_le_left _ _
      have hdl : 720 / s_ar s k ≤ 720 := Nat.div_le_self _ _
      refine k_lload_n rfl rfl ?_
      refine k_sipush (v := nI 720) rfl (by decide) ?_
      refine k_aload_n rfl rfl ?_
      refine k_getR rfl rfl (sr_o S) (sr_areas S) ?_
      refine k_iload_n rfl rfl ?_
      refine k_iA rfl (sr_a2 S) rfl (by omega) (by decide) (pr_ar P k hk) ?_
      refine k_idivN rfl (by omega) (by omega) (by omega) ?_
      refine k_i2lN rfl (by omega) ?_
      refine k_aload_n rfl rfl ?_
      refine k_getR rfl rfl (sr_o S) (sr_areas S) ?_
      refine k_iload_n rfl rfl ?_
      refine k_iA rfl (sr_a2 S) rfl (by omega) (by decide) (pr_ar P k hk) ?_
      refine k_i2lN rfl (by omega) ?_
      refine k_lload rfl rfl ?_
      refine k_lsubN rfl (by omega) ?_
      refine k_lmulN rfl ?_
      refine k_lmulN rfl ?_
      refine k_lst3 rfl rfl ?_
      refine k_incN5 rfl rfl ?_
      refine k_goto rfl ?_
      rw [hv]; exact ih (l + 1) _ (by omega)
    have J1 : ∀ x, x = (if l < s_lkr s then f l * s_rt s l else 0) → x ≤ 20000000 → Om g M_R_missed d Q h 43 [some (.ref m), some (.ref ra), some (.int (nI k)), some (.long (lN (msP s f k l))), none, some (.int (nI l)), z, none] [.long (lN x)] := by
      intro x hx hxb
      refine k_lst6 rfl rfl ?_
      refine k_lload rfl rfl ?_
      refine k_aload_n rfl rfl ?_
      refine k_getR rfl rfl (sr_o S) (sr_areas S) ?_
      refine k_iload_n rfl rfl ?_
      refine k_iA rfl (sr_a2 S) rfl (by omega) (by decide) (pr_ar P k hk) ?_
      refine k_i2lN rfl (by omega) ?_
      refine klN_le rfl rfl (by omega) (by omega) (fun c54 => ?_) (fun c54 => ?_)
      · refine k_lload rfl rfl ?_
        refine k_lst6 rfl rfl ?_
        exact J2 _ (by rw [← hx]; omega)
      · refine k_aload_n rfl rfl ?_
        refine k_getR rfl rfl (sr_o S) (sr_areas S) ?_
        refine k_iload_n rfl rfl ?_
        refine k_iA rfl (sr_a2 S) rfl (by omega) (by decide) (pr_ar P k hk) ?_
        refine k_i2lN rfl (by omega) ?_
        refine k_goto rfl ?_
        refine k_lst6 rfl rfl ?_
        exact J2 _ (by rw [← hx]; omega)
    refine k_iload rfl rfl ?_
    refine k_iconst (v := nI 4) rfl (by decide) ?_
    refine kn_ge rfl (by omega) (by omega) (fun c8 => ?_) (fun c8 => ?_)
    · exact absurd c8 (by omega)
    · refine k_iload rfl rfl ?_
      refine k_aload_n rfl rfl ?_
      refine k_gI rfl rfl (sr_o S) (pr_lkr P) ?_
      refine kn_ge rfl (by omega) (by omega) (fun c17 => ?_) (fun c17 => ?_)
      · refine k_lconst (v := lN 0) rfl (by decide) ?_
        exact J1 0 (by rw [if_neg (by omega)]) (by omega)
      · have b1 := hfb l c17
        have b2 := (v_rt I l c17).2
        have b3 : f l * s_rt s l ≤ 20000 * 1000 := Nat.mul_le_mul b1 b2
        refine k_aload_n rfl rfl ?_
        refine k_bipush (v := nI 40) rfl (by decide) ?_
        refine k_iload rfl rfl ?_
        refine k_imul rfl ?_
        refine k_iload_n rfl rfl ?_
        refine k_iadd rfl ?_
        refine k_iA rfl hA (ix40 l k) (by omega) (by decide) (hrow l c17) ?_
        refine k_i2lN rfl (by omega) ?_
        refine k_aload_n rfl rfl ?_
        refine k_getR rfl rfl (sr_o S) (sr_rate S) ?_
        refine k_iload rfl rfl ?_
        refine k_iA rfl (sr_a4 S) rfl (by omega) (by decide) (pr_rt P l c17) ?_
        refine k_i2lN rfl (by omega) ?_
        refine k_lmulN rfl ?_
        refine k_goto rfl ?_
        exact J1 _ (by rw [if_pos c17]) (by omega)
theorem c_R_worth {g : Gx} {h : Hp} {m d : Nat} {s : St} {Q : Option Value → Hp → Prop} (P : PR g h m s) (I : Inv s) {ra : Nat} {F : Nat → Nat → Nat} (hA : isA g h ra 0 160) (hrow : ∀ l k, l < s_lkr s → k < s_told s → hp_i h ra (40 * l + k) = nI (F l k)) (hfb : ∀ l k, l < s_lkr s → k < s_told s → F l k ≤ 20000) (hQ : Q (some (.long (lN (wo s F (s_told s))))) h) : Ct g M_R_worth (d + 1) 0 0 [.ref m, .ref ra] h Q := by
  have S := pr_S P
  have bT := v_told I
  have bL := v_lkr I
  refine ct_of ok_R_worth (by decide) (Nat.le_of_ble_eq_true rfl) [some (.ref m), some (.ref ra), none, none, none] rfl rfl ?_
  refine k_lconst (v := lN 0) rfl (by decide) ?_
  refine k_lst2 rfl rfl ?_
  refine k_iconst (v := nI 0) rfl (by decide) ?_
  refine k_ist4 rfl rfl ?_
  suffices H : ∀ (q i : Nat), i + q = s_told s → Om g M_R_worth (d + 1) Q h 5 [some (.ref m), some (.ref ra), some (.long (lN (wo s F i))), none, some (.int (nI i))] [] from H _ 0 (Nat.zero_add _)
  intro q
  induction q with
  | zero =>
    intro i hi
    have ei : i = s_told s := by omega
    refine k_iload rfl rfl ?_
    refine k_aload_n rfl rfl ?_
    refine k_gI rfl rfl (sr_o S) (pr_told P) ?_
    refine kn_ge rfl (by omega) (by omega) (fun c11 => ?_) (fun c11 => ?_)
    · refine k_lload_n rfl rfl ?_
      refine k_lret rfl rfl (Nat.le_refl _) (Nat.le_refl _) ?_
      rw [ei]; exact hQ
    · exact absurd c11 (by omega)
  | succ q ih =>
    intro i hi
    have hk : i < s_told s := by omega
    refine k_iload rfl rfl ?_
    refine k_aload_n rfl rfl ?_
    refine k_gI rfl rfl (sr_o S) (pr_told P) ?_
    refine kn_ge rfl (by omega) (by omega) (fun c11 => ?_) (fun c11 => ?_)
    · exact absurd c11 (by omega)
    · refine k_lload_n rfl rfl ?_
      refine k_aload_n rfl rfl ?_
      refine k_iload rfl rfl ?_
      refine k_cV1 rfl cw_R_weight wd_511 (sr_o S) rfl (by decide) (Nat.le_of_ble_eq_true rfl) ?_
      refine c_R_weight P I hk ?_
      refine k_i2lN rfl (by have := wt_le I hk; omega) ?_
      refine k_ldc2 rfl wd_515 ?_
      rw [lN_W]
      refine k_aload_n rfl rfl ?_
      refine k_aload_n rfl rfl ?_
      refine k_iload rfl rfl ?_
      refine k_cV2 rfl cw_R_missed wd_516 (sr_o S) rfl (by decide) (Nat.le_of_ble_eq_true rfl) ?_
      refine c_R_missed (f := fun l => F l i) P I hA hk (fun l hl => hrow l i hl hk) (fun l hl => hfb l i hl hk) ?_
      refine k_lsubN rfl (msN_le _ _ _) ?_
      refine k_lmulN rfl ?_
      refine k_laddN rfl ?_
      refine k_lst2 rfl rfl ?_
      refine k_incN4 rfl rfl ?_
      refine k_goto rfl ?_
      exact ih (i + 1) (by omega)
theorem c_R_use {g : Gx} {h : Hp} {m d : Nat} {s : St} {Q : Option Value → Hp → Prop} (P : PR g h m s) (I : Inv s) {l : Nat} (hl : l < s_lkr s) (hQ : Q (some (.int (nI (us s l)))) h) : Ct g M_R_use (d) 0 0 [.ref m, .int (nI l)] h Q := by
  have S := pr_S P
  have bT := v_told I
  have bL := v_lkr I
  refine ct_of ok_R_use (by decide) (Nat.le_of_ble_eq_true rfl) [some (.ref m), some (.int (nI l)), none, none] rfl rfl ?_
  have hb := (v_hr I l hl).2
  refine k_iconst (v := nI 0) rfl (by decide) ?_
  refine k_ist2 rfl rfl ?_
  refine k_iconst (v := nI 0) rfl (by decide) ?_
  refine k_ist3 rfl rfl ?_
  suffices H : ∀ (q i : Nat), i + q = s_hr s l → Om g M_R_use d Q h 4 [some (.ref m), some (.int (nI l)), some (.int (nI (usN s l i))), some (.int (nI i))] [] from H _ 0 (Nat.zero_add _)
  intro q
  induction q with
  | zero =>
    intro i hi
    have ei : i = s_hr s l := by omega
    refine k_iload_n rfl rfl ?_
    refine k_aload_n rfl rfl ?_
    refine k_getR rfl rfl (sr_o S) (sr_hours S) ?_
    refine k_iload_n rfl rfl ?_
    refine k_iA rfl (sr_a5 S) rfl (by omega) (by decide) (pr_hr P l hl) ?_
    refine kn_ge rfl (by omega) (by omega) (fun c11 => ?_) (fun c11 => ?_)
    · refine k_iload_n rfl rfl ?_
      refine k_iret rfl rfl (Nat.le_refl _) (Nat.le_refl _) ?_
      rw [ei]; exact hQ
    · exact absurd c11 (by omega)
  | succ q ih =>
    intro i hi
    refine k_iload_n rfl rfl ?_
    refine k_aload_n rfl rfl ?_
    refine k_getR rfl rfl (sr_o S) (sr_hours S) ?_
    refine k_iload_n rfl rfl ?_
    refine k_iA rfl (sr_a5 S) rfl (by omega) (by decide) (pr_hr P l hl) ?_
    refine kn_ge rfl (by omega) (by omega) (fun c11 => ?_) (fun c11 => ?_)
    · exact absurd c11 (by omega)
    · refine k_iload_n rfl rfl ?_
      refine k_aload_n rfl rfl ?_
      refine k_getR rfl rfl (sr_o S) (sr_barred S) ?_
      refine k_bipush (v := nI 24) rfl (by decide) ?_
      refine k_iload_n rfl rfl ?_
      refine k_imul rfl ?_
      refine k_iload_n rfl rfl ?_
      refine k_iadd rfl ?_
      refine k_zA rfl (sr_a6 S) (ix24 l i) (by omega) (by decide) (pr_bd P l i (by omega) (by omega)) ?_
      refine kb_eq rfl (fun c26 => ?_) (fun c26 => ?_)
      · refine k_iconst (v := nI 1) rfl (by decide) ?_
        refine k_iaddN rfl ?_
        refine k_ist2 rfl rfl ?_
        refine k_incN3 rfl rfl ?_
        refine k_goto rfl ?_
        have e := ih (i + 1) (by omega); simp only [usN] at e; rw [c26] at e; exact e
      · refine k_iconst (v := nI 0) rfl (by decide) ?_
        refine k_goto rfl ?_
        refine k_iaddN rfl ?_
        refine k_ist2 rfl rfl ?_
        refine k_incN3 rfl rfl ?_
        refine k_goto rfl ?_
        have e := ih (i + 1) (by omega); simp only [usN] at e; rw [c26] at e; exact e
theorem c_R_given {g : Gx} {h : Hp} {m d : Nat} {s : St} {Q : Option Value → Hp → Prop} (P : PR g h m s) (I : Inv s) {ra l : Nat} {F : Nat → Nat → Nat} (hA : isA g h ra 0 160) (hl : l < 4) (hrow : ∀ k, k < s_told s → hp_i h ra (40 * l + k) = nI (F l k)) (hQ : Q (some (.int (nI (gv F l (s_told s))))) h) : Ct g M_R_given (d) 0 0 [.ref m, .ref ra, .int (nI l)] h Q := by
  have S := pr_S P
  have bT := v_told I
  have bL := v_lkr I
  refine ct_of ok_R_given (by decide) (Nat.le_of_ble_eq_true rfl) [some (.ref m), some (.ref ra), some (.int (nI l)), none, none] rfl rfl ?_
  refine k_iconst (v := nI 0) rfl (by decide) ?_
  refine k_ist3 rfl rfl ?_
  refine k_iconst (v := nI 0) rfl (by decide) ?_
  refine k_ist4 rfl rfl ?_
  suffices H : ∀ (q i : Nat), i + q = s_told s → Om g M_R_given (d) Q h 5 [some (.ref m), some (.ref ra), some (.int (nI l)), some (.int (nI (gv F l i))), some (.int (nI i))] [] from H _ 0 (Nat.zero_add _)
  intro q
  induction q with
  | zero =>
    intro i hi
    have ei : i = s_told s := by omega
    refine k_iload rfl rfl ?_
    refine k_aload_n rfl rfl ?_
    refine k_gI rfl rfl (sr_o S) (pr_told P) ?_
    refine kn_ge rfl (by omega) (by omega) (fun c11 => ?_) (fun c11 => ?_)
    · refine k_iload_n rfl rfl ?_
      refine k_iret rfl rfl (Nat.le_refl _) (Nat.le_refl _) ?_
      rw [ei]; exact hQ
    · exact absurd c11 (by omega)
  | succ q ih =>
    intro i hi
    have hk : i < s_told s := by omega
    refine k_iload rfl rfl ?_
    refine k_aload_n rfl rfl ?_
    refine k_gI rfl rfl (sr_o S) (pr_told P) ?_
    refine kn_ge rfl (by omega) (by omega) (fun c11 => ?_) (fun c11 => ?_)
    · exact absurd c11 (by omega)
    · refine k_iload_n rfl rfl ?_
      refine k_aload_n rfl rfl ?_
      refine k_bipush (v := nI 40) rfl (by decide) ?_
      refine k_iload_n rfl rfl ?_
      refine k_imul rfl ?_
      refine k_iload rfl rfl ?_
      refine k_iadd rfl ?_
      refine k_iA rfl hA (ix40 l i) (by omega) (by decide) (hrow i hk) ?_
      refine k_iaddN rfl ?_
      refine k_ist3 rfl rfl ?_
      refine k_incN4 rfl rfl ?_
      refine k_goto rfl ?_
      exact ih (i + 1) (by omega)
theorem c_R_size {g : Gx} {h : Hp} {m d : Nat} {s : St} {Q : Option Value → Hp → Prop} (P : PR g h m s) (I : Inv s) (hQ : Q (some (.int (nI (szN s (s_lkr s))))) h) : Ct g M_R_size (d + 1) 0 0 [.ref m] h Q := by
  have S := pr_S P
  have bT := v_told I
  have bL := v_lkr I
  refine ct_of ok_R_size (by decide) (Nat.le_of_ble_eq_true rfl) [some (.ref m), none, none] rfl rfl ?_
  refine k_iconst (v := nI 0) rfl (by decide) ?_
  refine k_ist1 rfl rfl ?_
  refine k_iconst (v := nI 0) rfl (by decide) ?_
  refine k_ist2 rfl rfl ?_
  suffices H : ∀ (q i : Nat), i + q = s_lkr s → Om g M_R_size (d + 1) Q h 4 [some (.ref m), some (.int (nI (szN s i))), some (.int (nI i))] [] from H _ 0 (Nat.zero_add _)
  intro q
  induction q with
  | zero =>
    intro i hi
    have ei : i = s_lkr s := by omega
    refine k_iload_n rfl rfl ?_
    refine k_aload_n rfl rfl ?_
    refine k_gI rfl rfl (sr_o S) (pr_lkr P) ?_
    refine kn_ge rfl (by omega) (by omega) (fun c9 => ?_) (fun c9 => ?_)
    · refine k_iload_n rfl rfl ?_
      refine k_iret rfl rfl (Nat.le_refl _) (Nat.le_refl _) ?_
      rw [ei]; exact hQ
    · exact absurd c9 (by omega)
  | succ q ih =>
    intro i hi
    have hk : i < s_lkr s := by omega
    refine k_iload_n rfl rfl ?_
    refine k_aload_n rfl rfl ?_
    refine k_gI rfl rfl (sr_o S) (pr_lkr P) ?_
    refine kn_ge rfl (by omega) (by omega) (fun c9 => ?_) (fun c9 => ?_)
    · exact absurd c9 (by omega)
    · refine k_iload_n rfl rfl ?_
      refine k_aload_n rfl rfl ?_
      refine k_aload_n rfl rfl ?_
      refine k_getR rfl rfl (sr_o S) (sr_plan S) ?_
      refine k_iload_n rfl rfl ?_
      refine k_cV2 rfl cw_R_given wd_520 (sr_o S) rfl (by decide) (Nat.le_of_ble_eq_true rfl) ?_
      refine c_R_given (F := s_pl s) P I (sr_a7 S) (by omega) (fun k hk2 => pr_pl P i k (by omega) (by omega)) ?_
      refine k_iaddN rfl ?_
      refine k_ist1 rfl rfl ?_
      refine k_incN2 rfl rfl ?_
      refine k_goto rfl ?_
      exact ih (i + 1) (by omega)
theorem c_R_slot {g : Gx} {h : Hp} {m d : Nat} {s : St} {Q : Option Value → Hp → Prop} (P : PR g h m s) (I : Inv s) {i : Nat} (hn : 0 < s_told s) (hi : i < 2147483648) (hQ : Q (some (.int (nI (40 * (i / s_told s) + i % s_told s)))) h) : Ct g M_R_slot (d) 0 0 [.ref m, .int (nI i)] h Q := by
  have S := pr_S P
  have bT := v_told I
  have bL := v_lkr I
  refine ct_of ok_R_slot (by decide) (Nat.le_of_ble_eq_true rfl) [some (.ref m), some (.int (nI i))] rfl rfl ?_
  refine k_bipush (v := nI 40) rfl (by decide) ?_
  refine k_iload_n rfl rfl ?_
  refine k_aload_n rfl rfl ?_
  refine k_gI rfl rfl (sr_o S) (pr_told P) ?_
  refine k_idivN rfl (by omega) (by omega) (by omega) ?_
  refine k_imulN rfl ?_
  refine k_iload_n rfl rfl ?_
  refine k_aload_n rfl rfl ?_
  refine k_gI rfl rfl (sr_o S) (pr_told P) ?_
  refine k_iremN rfl (by omega) (by omega) (by omega) ?_
  refine k_iaddN rfl ?_
  refine k_iret rfl rfl (Nat.le_refl _) (Nat.le_refl _) ?_
  exact hQ
theorem c_R_all {g : Gx} {h : Hp} {m d : Nat} {s : St} {Q : Option Value → Hp → Prop} (P : PR g h m s) (I : Inv s) (hQ : Q (some (.long (lN (alN s (s_told s))))) h) : Ct g M_R_all (d) 0 0 [.ref m] h Q := by
  have S := pr_S P
  have bT := v_told I
  have bL := v_lkr I
  refine ct_of ok_R_all (by decide) (Nat.le_of_ble_eq_true rfl) [some (.ref m), none, none, none] rfl rfl ?_
  refine k_lconst (v := lN 0) rfl (by decide) ?_
  refine k_lst1 rfl rfl ?_
  refine k_iconst (v := nI 0) rfl (by decide) ?_
  refine k_ist3 rfl rfl ?_
  suffices H : ∀ (q i : Nat), i + q = s_told s → Om g M_R_all (d) Q h 4 [some (.ref m), some (.long (lN (alN s i))), none, some (.int (nI i))] [] from H _ 0 (Nat.zero_add _)
  intro q
  induction q with
  | zero =>
    intro i hi
    have ei : i = s_told s := by omega
    refine k_iload_n rfl rfl ?_
    refine k_aload_n rfl rfl ?_
    refine k_gI rfl rfl (sr_o S) (pr_told P) ?_
    refine kn_ge rfl (by omega) (by omega) (fun c9 => ?_) (fun c9 => ?_)
    · refine k_lload_n rfl rfl ?_
      refine k_lret rfl rfl (Nat.le_refl _) (Nat.le_refl _) ?_
      rw [ei]; exact hQ
    · exact absurd c9 (by omega)
  | succ q ih =>
    intro i hi
    have hk : i < s_told s := by omega
    refine k_iload_n rfl rfl ?_
    refine k_aload_n rfl rfl ?_
    refine k_gI rfl rfl (sr_o S) (pr_told P) ?_
    refine kn_ge rfl (by omega) (by omega) (fun c9 => ?_) (fun c9 => ?_)
    · exact absurd c9 (by omega)
    · refine k_lload_n rfl rfl ?_
      refine k_aload_n rfl rfl ?_
      refine k_getR rfl rfl (sr_o S) (sr_count S) ?_
      refine k_iload_n rfl rfl ?_
      refine k_iA rfl (sr_a3 S) (c0_ix i) (by omega) (by decide) (pr_cn P 0 i (by decide) hk) ?_
      refine k_i2lN rfl (by have := v_cn I 0 i (by decide) hk; omega) ?_
      refine k_laddN rfl ?_
      refine k_lst1 rfl rfl ?_
      refine k_incN3 rfl rfl ?_
      refine k_goto rfl ?_
      exact ih (i + 1) (by omega)
theorem c_R_left {g : Gx} {h : Hp} {m d : Nat} {s : St} {Q : Option Value → Hp → Prop} (P : PR g h m s) (I : Inv s) (hQ : Q (some (.long (lN (lfN s (s_told s))))) h) : Ct g M_R_left (d + 1) 0 0 [.ref m] h Q := by
  have S := pr_S P
  have bT := v_told I
  have bL := v_lkr I
  refine ct_of ok_R_left (by decide) (Nat.le_of_ble_eq_true rfl) [some (.ref m), none, none, none] rfl rfl ?_
  have bK := v_lks I
  have hld : ∀ l k, l < s_lkr s → k < s_told s → s_ld s l k ≤ 20000 := fun l k h1 h2 => by have := v_ld I l k (by omega) h2; omega
  refine k_lconst (v := lN 0) rfl (by decide) ?_
  refine k_lst1 rfl rfl ?_
  refine k_iconst (v := nI 0) rfl (by decide) ?_
  refine k_ist3 rfl rfl ?_
  suffices H : ∀ (q i : Nat), i + q = s_told s → Om g M_R_left (d + 1) Q h 4 [some (.ref m), some (.long (lN (lfN s i))), none, some (.int (nI i))] [] from H _ 0 (Nat.zero_add _)
  intro q
  induction q with
  | zero =>
    intro i hi
    have ei : i = s_told s := by omega
    refine k_iload_n rfl rfl ?_
    refine k_aload_n rfl rfl ?_
    refine k_gI rfl rfl (sr_o S) (pr_told P) ?_
    refine kn_ge rfl (by omega) (by omega) (fun c9 => ?_) (fun c9 => ?_)
    · refine k_lload_n rfl rfl ?_
      refine k_lret rfl rfl (Nat.le_refl _) (Nat.le_refl _) ?_
      rw [ei]; exact hQ
    · exact absurd c9 (by omega)
  | succ q ih =>
    intro i hi
    have hk : i < s_told s := by omega
    refine k_iload_n rfl rfl ?_
    refine k_aload_n rfl rfl ?_
    refine k_gI rfl rfl (sr_o S) (pr_told P) ?_
    refine kn_ge rfl (by omega) (by omega) (fun c9 => ?_) (fun c9 => ?_)
    · exact absurd c9 (by omega)
    · refine k_lload_n rfl rfl ?_
      refine k_aload_n rfl rfl ?_
      refine k_getR rfl rfl (sr_o S) (sr_count S) ?_
      refine k_iload_n rfl rfl ?_
      refine k_iA rfl (sr_a3 S) (c0_ix i) (by omega) (by decide) (pr_cn P 0 i (by decide) hk) ?_
      refine k_i2lN rfl (by have := v_cn I 0 i (by decide) hk; omega) ?_
      refine k_aload_n rfl rfl ?_
      refine k_aload_n rfl rfl ?_
      refine k_getR rfl rfl (sr_o S) (sr_looked S) ?_
      refine k_iload_n rfl rfl ?_
      refine k_cV2 rfl cw_R_missed wd_516 (sr_o S) rfl (by decide) (Nat.le_of_ble_eq_true rfl) ?_
      refine c_R_missed (f := fun l => s_ld s l i) P I (sr_a9 S) hk (fun l hl => pr_ld P l i (by omega) hk) (fun l hl => hld l i hl hk) ?_
      refine k_lmulN rfl ?_
      refine k_laddN rfl ?_
      refine k_lst1 rfl rfl ?_
      refine k_incN3 rfl rfl ?_
      refine k_goto rfl ?_
      exact ih (i + 1) (by omega)
theorem c_R_common {g : Gx} {h : Hp} {d a b : Nat} {Q : Option Value → Hp → Prop} (ha : a < 2 ^ 63) (hb : b < 2 ^ 63) (hQ : Q (some (.long (lN (Nat.gcd a b)))) h) : Ct g M_R_common d 0 0 [.long (lN a), .long (lN b)] h Q := by
  refine ct_of ok_R_common (by decide) (Nat.le_of_ble_eq_true rfl) [some (.long (lN a)), none, some (.long (lN b)), none, none, none, none, none, none, none] rfl rfl ?_
  refine k_lload_n rfl rfl ?_
  refine k_lst4 rfl rfl ?_
  refine k_lload_n rfl rfl ?_
  refine k_lst6 rfl rfl ?_
  suffices H : ∀ (q x y : Nat) (z : Option Value), y < q → x < 2 ^ 63 → y < 2 ^ 63 → Nat.gcd x y = Nat.gcd a b → Om g M_R_common d Q h 6 [some (.long (lN a)), none, some (.long (lN b)), none, some (.long (lN x)), none, some (.long (lN y)), none, z, none] [] from H (b + 1) a b none (by omega) ha hb rfl
  intro q
  induction q with
  | zero =>
    intro x y z h1
    exact absurd h1 (Nat.not_lt_zero y)
  | succ q ih =>
    intro x y z h1 hx hy e
    refine k_lload rfl rfl ?_
    refine k_lconst (v := lN 0) rfl (by decide) ?_
    refine klN_eq rfl rfl hy (by decide) (fun c9 => ?_) (fun c9 => ?_)
    · subst c9
      rw [Nat.gcd_zero_right] at e
      refine k_lload rfl rfl ?_
      refine k_lret rfl rfl (Nat.le_refl _) (Nat.le_refl _) ?_
      rw [e]; exact hQ
    · have hp : 0 < y := by omega
      have hm : x % y < y := Nat.mod_lt _ hp
      refine k_lload rfl rfl ?_
      refine k_lload rfl rfl ?_
      refine k_lremN rfl hx hp hy ?_
      refine k_lst8 rfl rfl ?_
      refine k_lload rfl rfl ?_
      refine k_lst4 rfl rfl ?_
      refine k_lload rfl rfl ?_
      refine k_lst6 rfl rfl ?_
      refine k_goto rfl ?_
      exact ih y (x % y) _ (by omega) hy (by omega) (by rw [← e, Nat.gcd_comm x y, Nat.gcd_rec y x, Nat.gcd_comm])
/-- a part of a / b in lowest terms -/
def ptI (a b : Nat) (p : Int32) : Int64 := if p < 0 ∨ 1 < p then -1 else if a = 0 ∨ b = 0 then p.toInt64 else lN ((if p = 0 then a else b) / Nat.gcd a b)
theorem c_R_part {g : Gx} {h : Hp} {d a b : Nat} {p : Int32} {Q : Option Value → Hp → Prop} (ha : a < 2 ^ 63) (hb : b < 2 ^ 63) (hQ : Q (some (.long (ptI a b p))) h) : Ct g M_R_part (d + 1) 0 0 [.long (lN a), .long (lN b), .int p] h Q := by
  refine ct_of ok_R_part (by decide) (Nat.le_of_ble_eq_true rfl) [some (.long (lN a)), none, some (.long (lN b)), none, some (.int p), none, none] rfl rfl ?_
  refine k_iload rfl rfl ?_
  refine k_if_lt rfl (fun c2 => ?_) (fun c2 => ?_)
  · refine k_ldc2 rfl wd_552 ?_
    refine k_lret rfl rfl (Nat.le_refl _) (Nat.le_refl _) ?_
    rw [show (-1 : Int64) = ptI a b p from by unfold ptI; rw [if_pos (Or.inl c2)]]; exact hQ
  · refine k_iload rfl rfl ?_
    refine k_iconst (v := 1) rfl (by decide) ?_
    refine k_icmp_le rfl (fun c8 => ?_) (fun c8 => ?_)
    · refine k_lload_n rfl rfl ?_
      refine k_lconst (v := lN 0) rfl (by decide) ?_
      refine klN_eq rfl rfl ha (by decide) (fun c17 => ?_) (fun c17 => ?_)
      · refine k_iload rfl rfl ?_
        refine k_i2l rfl ?_
        refine k_lret rfl rfl (Nat.le_refl _) (Nat.le_refl _) ?_
        rw [show p.toInt64 = ptI a b p from by unfold ptI; rw [if_neg (fun z => z.elim c2 (Int32.not_lt.mpr c8)), if_pos (Or.inl c17)]]; exact hQ
      · refine k_lload_n rfl rfl ?_
        refine k_lconst (v := lN 0) rfl (by decide) ?_
        refine klN_ne rfl rfl hb (by decide) (fun c23 => ?_) (fun c23 => ?_)
        · refine k_lload_n rfl rfl ?_
          refine k_lload_n rfl rfl ?_
          have hg : 0 < Nat.gcd a b := Nat.gcd_pos_of_pos_left _ (by omega)
          have hg2 : Nat.gcd a b ≤ a := Nat.le_of_dvd (by omega) (Nat.gcd_dvd_left a b)
          refine k_cS2 rfl cw_R_common wd_560 (by decide) (Nat.le_of_ble_eq_true rfl) ?_
          refine c_R_common ha hb ?_
          refine k_lst5 rfl rfl ?_
          refine k_iload rfl rfl ?_
          refine k_if_ne rfl (fun c40 => ?_) (fun c40 => ?_)
          · refine k_lload_n rfl rfl ?_
            refine k_lload rfl rfl ?_
            refine k_ldivN rfl (by omega) (by omega) (by omega) ?_
            refine k_lret rfl rfl (Nat.le_refl _) (Nat.le_refl _) ?_
            rw [show lN (b / Nat.gcd a b) = ptI a b p from by unfold ptI; rw [if_neg (fun z => z.elim c2 (Int32.not_lt.mpr c8)), if_neg (fun z => z.elim c17 c23), if_neg c40]]; exact hQ
          · refine k_lload_n rfl rfl ?_
            refine k_lload rfl rfl ?_
            refine k_ldivN rfl (by omega) (by omega) (by omega) ?_
            refine k_goto rfl ?_
            refine k_lret rfl rfl (Nat.le_refl _) (Nat.le_refl _) ?_
            rw [show lN (a / Nat.gcd a b) = ptI a b p from by unfold ptI; rw [if_neg (fun z => z.elim c2 (Int32.not_lt.mpr c8)), if_neg (fun z => z.elim c17 c23), if_pos c40]]; exact hQ
        · refine k_iload rfl rfl ?_
          refine k_i2l rfl ?_
          refine k_lret rfl rfl (Nat.le_refl _) (Nat.le_refl _) ?_
          rw [show p.toInt64 = ptI a b p from by unfold ptI; rw [if_neg (fun z => z.elim c2 (Int32.not_lt.mpr c8)), if_pos (Or.inr c23)]]; exact hQ
    · refine k_ldc2 rfl wd_552 ?_
      refine k_lret rfl rfl (Nat.le_refl _) (Nat.le_refl _) ?_
      rw [show (-1 : Int64) = ptI a b p from by unfold ptI; rw [if_pos (Or.inr (Int32.not_le.mp c8))]]; exact hQ
end
section
theorem m1_L : (-1 : Int64) = -1 := rfl
theorem nI_m1 {k : Nat} (h : k < 2 ^ 31) : nI k ≠ -1 := fun e => by
  have h1 := nI_pos h
  rw [e] at h1
  exact h1 (by decide)
def opN (r : Option Nat) (f : Nat → Nat) : Nat := match r with
  | some k => f k
  | none => 0
/-- odds, as the reference has them -/
def odR (s : St) (c p : Int32) : Int64 := cond (isc (nI (s_cells s)) c) (ptI (opN (plS s c) (s_cn s 0)) (alN s (s_told s)) p) (-1)
def m0 (s : St) (k : Nat) : Nat := s_cn s 0 k * msN s (fun l => s_ld s l k) k
def afS (s : St) (c p : Int32) : Int64 := cond (isc (nI (s_cells s)) c) (match s_seen s with
  | some q => ptI (if nI q = c then 1 else 0) 1 p
  | none => ptI (opN (plS s c) (m0 s)) (lfN s (s_told s)) p) (-1)
def smS (s : St) : Bool := (s_seen s).isSome || decide (0 < lfN s (s_told s))
def wsN (s : St) : Nat → Nat
  | 0 => 0
  | k + 1 => wsN s k + wtN s k
theorem wsN_le {s : St} (I : Inv s) : ∀ k, k ≤ s_told s → wsN s k ≤ k * 4000
  | 0, _ => by simp [wsN]
  | k + 1, h => by
    have h1 := wsN_le I k (by omega)
    have h2 := wt_le I (k := k) (by omega)
    simp only [wsN]; omega
def fdS (s : St) (p : Int32) : Int64 := ptI (wo s (s_pl s) (s_told s)) (wsN s (s_told s) * 268738560000) p
def ofS (s : St) (l c : Int32) : Int32 := cond (isc (nI (s_lkr s)) l && isc (nI (s_cells s)) c) (nI (opN (plS s c) (fun k => s_pl s l.toNatClampNeg k))) (-1)
def stS (s : St) : Int32 := if s_bl s = 0 ∨ alN s (s_told s) = 0 then -1 else if s_seen s ≠ none ∨ s_ab s * alN s (s_told s) * 268738560000 ≤ (alN s (s_told s) * 268738560000 - lfN s (s_told s)) * s_bl s then 1 else 0
def cvS (s : St) (c : Int32) : Bool := isc (nI (s_cells s)) c && (plS s c).isSome
def rk (s : St) (k : Nat) : Nat := match s_seen s with
  | some q => if s_num s k = q then 1 else 0
  | none => m0 s k
theorem m0_le {s : St} (I : Inv s) {k : Nat} (h : k < s_told s) : m0 s k ≤ 1000 * 268738560000 := lf1_le I h
theorem rk_le {s : St} (I : Inv s) {k : Nat} (h : k < s_told s) : rk s k ≤ 1000 * 268738560000 := by
  have := m0_le I h
  unfold rk
  split
  · split <;> omega
  · exact this
def bfO (s : St) (k : Nat) : Nat → Nat
  | 0 => 0
  | i + 1 => bfO s k i + (if rk s k < rk s i ∨ (rk s i = rk s k ∧ i < k) then 1 else 0)
theorem bfO_le (s : St) (k : Nat) : ∀ i, bfO s k i ≤ i
  | 0 => Nat.le_refl _
  | i + 1 => by
    have := bfO_le s k i
    simp only [bfO]
    split <;> omega
def orF (s : St) (n : Int32) : Nat → Nat → Int32
  | 0, _ => -1
  | q + 1, i => if nI (bfO s i (s_told s)) = n then nI (s_num s i) else orF s n q (i + 1)
def orS (s : St) (n : Int32) : Int32 := cond (isc (nI (s_told s)) n) (orF s n (s_told s) 0) (-1)
theorem isc_of {n : Nat} {c : Int32} (hn : n < 2 ^ 31) (h : isc (nI n) c = true) : ∃ k, k < n ∧ c = nI k ∧ c.toNatClampNeg = k := by
  unfold isc at h
  simp only [Bool.and_eq_true, decide_eq_true_eq] at h
  obtain ⟨k, h1, h2⟩ := nI_of (x := c) (Int32.not_lt.mpr h.1)
  subst h2
  exact ⟨k, (nI_ltI h1 hn).mp h.2, rfl, nI_clamp h1⟩
theorem isc_t {n c : Int32} (h1 : ¬ c < 0) (h2 : c < n) : isc n c = true := by simp [isc, Int32.not_lt.mp h1, h2]
theorem isc_f1 {n c : Int32} (h1 : c < 0) : isc n c = false := by simp [isc, Int32.not_le.mpr h1]
theorem isc_f2 {n c : Int32} (h1 : ¬ c < n) : isc n c = false := by simp [isc, h1]
theorem c_R_odds {g : Gx} {h : Hp} {m d : Nat} {s : St} {Q : Option Value → Hp → Prop} (P : PR g h m s) (I : Inv s) (c p : Int32) (hQ : Q (some (.long (odR s c p))) h) : Ct g M_R_odds (d + 2) 0 0 [.ref m, .int c, .int p] h Q := by
  have S := pr_S P
  have bT := v_told I
  have bL := v_lkr I
  refine ct_of ok_R_odds (by decide) (Nat.le_of_ble_eq_true rfl) [some (.ref m), some (.int c), some (.int p), none] rfl rfl ?_
  have hal := alN_le I (s_told s) (Nat.le_refl _)
  unfold odR at hQ
  cases hp : plS s c with
  | none =>
    rw [hp] at hQ
    refine k_aload_n rfl rfl ?_
    refine k_iload_n rfl rfl ?_
    refine k_cV1 rfl cw_R_isCell wd_450 (sr_o S) rfl (by decide) (Nat.le_of_ble_eq_true rfl) ?_
    refine c_R_isCell P I c ?_
    refine kb_ne rfl (fun c5 => ?_) (fun c5 => ?_)
    · refine k_aload_n rfl rfl ?_
      refine k_iload_n rfl rfl ?_
      refine k_cV1 rfl cw_R_place wd_455 (sr_o S) rfl (by decide) (Nat.le_of_ble_eq_true rfl) ?_
      refine c_R_place P I c ?_
      rw [hp]
      refine k_ist3 rfl rfl ?_
      refine k_iload_n rfl rfl ?_
      refine k_iconst (v := -1) rfl (by decide) ?_
      refine k_icmp_ne rfl (fun c20 => ?_) (fun c20 => ?_)
      · exact absurd rfl c20
      · refine k_lconst (v := lN 0) rfl (by decide) ?_
        refine k_goto rfl ?_
        refine k_aload_n rfl rfl ?_
        refine k_cV0 rfl cw_R_all wd_553 (sr_o S) rfl (by decide) (Nat.le_of_ble_eq_true rfl) ?_
        refine c_R_all P I ?_
        refine k_iload_n rfl rfl ?_
        refine k_cS3 rfl cw_R_part wd_557 (by decide) (Nat.le_of_ble_eq_true rfl) ?_
        refine c_R_part (by decide) (by omega) ?_
        refine k_lret rfl rfl (Nat.le_refl _) (Nat.le_refl _) ?_
        rw [c5] at hQ; exact hQ
    · refine k_ldc2 rfl wd_552 ?_
      refine k_lret rfl rfl (Nat.le_refl _) (Nat.le_refl _) ?_
      rw [c5] at hQ; exact hQ
  | some k =>
    have hk := plS_lt hp
    have hc := v_cn I 0 k (by decide) hk
    rw [hp] at hQ
    refine k_aload_n rfl rfl ?_
    refine k_iload_n rfl rfl ?_
    refine k_cV1 rfl cw_R_isCell wd_450 (sr_o S) rfl (by decide) (Nat.le_of_ble_eq_true rfl) ?_
    refine c_R_isCell P I c ?_
    refine kb_ne rfl (fun c5 => ?_) (fun c5 => ?_)
    · refine k_aload_n rfl rfl ?_
      refine k_iload_n rfl rfl ?_
      refine k_cV1 rfl cw_R_place wd_455 (sr_o S) rfl (by decide) (Nat.le_of_ble_eq_true rfl) ?_
      refine c_R_place P I c ?_
      rw [hp]
      refine k_ist3 rfl rfl ?_
      refine k_iload_n rfl rfl ?_
      refine k_iconst (v := -1) rfl (by decide) ?_
      refine k_icmp_ne rfl (fun c20 => ?_) (fun c20 => ?_)
      · refine k_aload_n rfl rfl ?_
        refine k_getR rfl rfl (sr_o S) (sr_count S) ?_
        refine k_iload_n rfl rfl ?_
        refine k_iA rfl (sr_a3 S) (c0_ix k) (by omega) (by decide) (pr_cn P 0 k (by decide) hk) ?_
        refine k_i2lN rfl (by omega) ?_
        refine k_aload_n rfl rfl ?_
        refine k_cV0 rfl cw_R_all wd_553 (sr_o S) rfl (by decide) (Nat.le_of_ble_eq_true rfl) ?_
        refine c_R_all P I ?_
        refine k_iload_n rfl rfl ?_
        refine k_cS3 rfl cw_R_part wd_557 (by decide) (Nat.le_of_ble_eq_true rfl) ?_
        refine c_R_part (by omega) (by omega) ?_
        refine k_lret rfl rfl (Nat.le_refl _) (Nat.le_refl _) ?_
        rw [c5] at hQ; exact hQ
      · exact absurd c20 (nI_m1 (by omega))
    · refine k_ldc2 rfl wd_552 ?_
      refine k_lret rfl rfl (Nat.le_refl _) (Nat.le_refl _) ?_
      rw [c5] at hQ; exact hQ
theorem c_R_after {g : Gx} {h : Hp} {m d : Nat} {s : St} {Q : Option Value → Hp → Prop} (P : PR g h m s) (I : Inv s) (c p : Int32) (hQ : Q (some (.long (afS s c p))) h) : Ct g M_R_after (d + 2) 0 0 [.ref m, .int c, .int p] h Q := by
  have S := pr_S P
  have bT := v_told I
  have bL := v_lkr I
  refine ct_of ok_R_after (by decide) (Nat.le_of_ble_eq_true rfl) [some (.ref m), some (.int c), some (.int p), none] rfl rfl ?_
  have bK := v_lks I
  have hld : ∀ l k, l < s_lkr s → k < s_told s → s_ld s l k ≤ 20000 := fun l k h1 h2 => by have := v_ld I l k (by omega) h2; omega
  have hal := lfN_le I (s_told s) (Nat.le_refl _)
  have hcb := v_cells I
  unfold afS at hQ
  cases hs : s_seen s with
  | some q =>
    have hq := v_seen I q hs
    rw [hs] at hQ
    simp only at hQ
    refine k_aload_n rfl rfl ?_
    refine k_iload_n rfl rfl ?_
    refine k_cV1 rfl cw_R_isCell wd_450 (sr_o S) rfl (by decide) (Nat.le_of_ble_eq_true rfl) ?_
    refine c_R_isCell P I c ?_
    refine kb_ne rfl (fun c5 => ?_) (fun c5 => ?_)
    · refine k_aload_n rfl rfl ?_
      refine k_gI (x := nI q) rfl rfl (sr_o S) ((pr_seen P).trans (by rw [hs]; rfl)) ?_
      refine k_iconst (v := -1) rfl (by decide) ?_
      refine k_icmp_eq rfl (fun c17 => ?_) (fun c17 => ?_)
      · exact absurd c17 (nI_m1 (by omega))
      · refine k_aload_n rfl rfl ?_
        refine k_gI (x := nI q) rfl rfl (sr_o S) ((pr_seen P).trans (by rw [hs]; rfl)) ?_
        refine k_iload_n rfl rfl ?_
        refine k_icmp_ne rfl (fun c25 => ?_) (fun c25 => ?_)
        · refine k_lconst (v := lN 0) rfl (by decide) ?_
          refine k_lconst (v := lN 1) rfl (by decide) ?_
          refine k_iload_n rfl rfl ?_
          refine k_cS3 rfl cw_R_part wd_557 (by decide) (Nat.le_of_ble_eq_true rfl) ?_
          refine c_R_part (by decide) (by decide) ?_
          refine k_lret rfl rfl (Nat.le_refl _) (Nat.le_refl _) ?_
          rw [c5, if_neg c25] at hQ; exact hQ
        · refine k_lconst (v := lN 1) rfl (by decide) ?_
          refine k_goto rfl ?_
          refine k_lconst (v := lN 1) rfl (by decide) ?_
          refine k_iload_n rfl rfl ?_
          refine k_cS3 rfl cw_R_part wd_557 (by decide) (Nat.le_of_ble_eq_true rfl) ?_
          refine c_R_part (by decide) (by decide) ?_
          refine k_lret rfl rfl (Nat.le_refl _) (Nat.le_refl _) ?_
          rw [c5, if_pos c25] at hQ; exact hQ
    · refine k_ldc2 rfl wd_552 ?_
      refine k_lret rfl rfl (Nat.le_refl _) (Nat.le_refl _) ?_
      rw [c5] at hQ; exact hQ
  | none =>
    rw [hs] at hQ
    cases hp : plS s c with
    | none =>
      rw [hp] at hQ
      refine k_aload_n rfl rfl ?_
      refine k_iload_n rfl rfl ?_
      refine k_cV1 rfl cw_R_isCell wd_450 (sr_o S) rfl (by decide) (Nat.le_of_ble_eq_true rfl) ?_
      refine c_R_isCell P I c ?_
      refine kb_ne rfl (fun c5 => ?_) (fun c5 => ?_)
      · refine k_aload_n rfl rfl ?_
        refine k_gI (x := -1) rfl rfl (sr_o S) ((pr_seen P).trans (by rw [hs]; rfl)) ?_
        refine k_iconst (v := -1) rfl (by decide) ?_
        refine k_icmp_eq rfl (fun c17 => ?_) (fun c17 => ?_)
        · refine k_aload_n rfl rfl ?_
          refine k_iload_n rfl rfl ?_
          refine k_cV1 rfl cw_R_place wd_455 (sr_o S) rfl (by decide) (Nat.le_of_ble_eq_true rfl) ?_
          refine c_R_place P I c ?_
          rw [hp]
          refine k_ist3 rfl rfl ?_
          refine k_iload_n rfl rfl ?_
          refine k_iconst (v := -1) rfl (by decide) ?_
          refine k_icmp_ne rfl (fun c47 => ?_) (fun c47 => ?_)
          · exact absurd rfl c47
          · refine k_lconst (v := lN 0) rfl (by decide) ?_
            refine k_goto rfl ?_
            refine k_aload_n rfl rfl ?_
            refine k_cV0 rfl cw_R_left wd_567 (sr_o S) rfl (by decide) (Nat.le_of_ble_eq_true rfl) ?_
            refine c_R_left P I ?_
            refine k_iload_n rfl rfl ?_
            refine k_cS3 rfl cw_R_part wd_557 (by decide) (Nat.le_of_ble_eq_true rfl) ?_
            refine c_R_part (by decide) (by omega) ?_
            refine k_lret rfl rfl (Nat.le_refl _) (Nat.le_refl _) ?_
            rw [c5] at hQ; exact hQ
        · exact absurd rfl c17
      · refine k_ldc2 rfl wd_552 ?_
        refine k_lret rfl rfl (Nat.le_refl _) (Nat.le_refl _) ?_
        rw [c5] at hQ; exact hQ
    | some k =>
      have hk := plS_lt hp
      have hc := v_cn I 0 k (by decide) hk
      have hm0 := m0_le I hk
      rw [hp] at hQ
      refine k_aload_n rfl rfl ?_
      refine k_iload_n rfl rfl ?_
      refine k_cV1 rfl cw_R_isCell wd_450 (sr_o S) rfl (by decide) (Nat.le_of_ble_eq_true rfl) ?_
      refine c_R_isCell P I c ?_
      refine kb_ne rfl (fun c5 => ?_) (fun c5 => ?_)
      · refine k_aload_n rfl rfl ?_
        refine k_gI (x := -1) rfl rfl (sr_o S) ((pr_seen P).trans (by rw [hs]; rfl)) ?_
        refine k_iconst (v := -1) rfl (by decide) ?_
        refine k_icmp_eq rfl (fun c17 => ?_) (fun c17 => ?_)
        · refine k_aload_n rfl rfl ?_
          refine k_iload_n rfl rfl ?_
          refine k_cV1 rfl cw_R_place wd_455 (sr_o S) rfl (by decide) (Nat.le_of_ble_eq_true rfl) ?_
          refine c_R_place P I c ?_
          rw [hp]
          refine k_ist3 rfl rfl ?_
          refine k_iload_n rfl rfl ?_
          refine k_iconst (v := -1) rfl (by decide) ?_
          refine k_icmp_ne rfl (fun c47 => ?_) (fun c47 => ?_)
          · refine k_aload_n rfl rfl ?_
            refine k_getR rfl rfl (sr_o S) (sr_count S) ?_
            refine k_iload_n rfl rfl ?_
            refine k_iA rfl (sr_a3 S) (c0_ix k) (by omega) (by decide) (pr_cn P 0 k (by decide) hk) ?_
            refine k_i2lN rfl (by omega) ?_
            refine k_aload_n rfl rfl ?_
            refine k_aload_n rfl rfl ?_
            refine k_getR rfl rfl (sr_o S) (sr_looked S) ?_
            refine k_iload_n rfl rfl ?_
            refine k_cV2 rfl cw_R_missed wd_516 (sr_o S) rfl (by decide) (Nat.le_of_ble_eq_true rfl) ?_
            refine c_R_missed (f := fun l => s_ld s l k) P I (sr_a9 S) hk (fun l hl => pr_ld P l k (by omega) hk) (fun l hl => hld l k hl hk) ?_
            refine k_lmulN rfl ?_
            refine k_aload_n rfl rfl ?_
            refine k_cV0 rfl cw_R_left wd_567 (sr_o S) rfl (by decide) (Nat.le_of_ble_eq_true rfl) ?_
            refine c_R_left P I ?_
            refine k_iload_n rfl rfl ?_
            refine k_cS3 rfl cw_R_part wd_557 (by decide) (Nat.le_of_ble_eq_true rfl) ?_
            refine c_R_part (show m0 s k < 2 ^ 63 by omega) (by omega) ?_
            refine k_lret rfl rfl (Nat.le_refl _) (Nat.le_refl _) ?_
            rw [c5] at hQ; exact hQ
          · exact absurd c47 (nI_m1 (by omega))
        · exact absurd rfl c17
      · refine k_ldc2 rfl wd_552 ?_
        refine k_lret rfl rfl (Nat.le_refl _) (Nat.le_refl _) ?_
        rw [c5] at hQ; exact hQ
theorem c_R_sums {g : Gx} {h : Hp} {m d : Nat} {s : St} {Q : Option Value → Hp → Prop} (P : PR g h m s) (I : Inv s) (hQ : Q (some (.int (bI (smS s)))) h) : Ct g M_R_sums (d + 2) 0 0 [.ref m] h Q := by
  have S := pr_S P
  have bT := v_told I
  have bL := v_lkr I
  refine ct_of ok_R_sums (by decide) (Nat.le_of_ble_eq_true rfl) [some (.ref m)] rfl rfl ?_
  have hal := lfN_le I (s_told s) (Nat.le_refl _)
  have hcb := v_cells I
  unfold smS at hQ
  cases hs : s_seen s with
  | some q =>
    have hq := v_seen I q hs
    rw [hs] at hQ
    refine k_aload_n rfl rfl ?_
    refine k_gI (x := nI q) rfl rfl (sr_o S) ((pr_seen P).trans (by rw [hs]; rfl)) ?_
    refine k_iconst (v := -1) rfl (by decide) ?_
    refine k_icmp_ne rfl (fun c5 => ?_) (fun c5 => ?_)
    · refine k_iconst (v := nI 1) rfl (by decide) ?_
      refine k_goto rfl ?_
      refine k_zret rfl rfl (by decide) (Nat.le_refl _) (Nat.le_refl _) ?_
      exact hQ
    · exact absurd c5 (nI_m1 (by omega))
  | none =>
    rw [hs] at hQ
    refine k_aload_n rfl rfl ?_
    refine k_gI (x := -1) rfl rfl (sr_o S) ((pr_seen P).trans (by rw [hs]; rfl)) ?_
    refine k_iconst (v := -1) rfl (by decide) ?_
    refine k_icmp_ne rfl (fun c5 => ?_) (fun c5 => ?_)
    · exact absurd rfl c5
    · refine k_aload_n rfl rfl ?_
      refine k_cV0 rfl cw_R_left wd_567 (sr_o S) rfl (by decide) (Nat.le_of_ble_eq_true rfl) ?_
      refine c_R_left P I ?_
      refine k_lconst (v := lN 0) rfl (by decide) ?_
      refine klN_le rfl rfl (by omega) (by omega) (fun c13 => ?_) (fun c13 => ?_)
      · refine k_iconst (v := nI 0) rfl (by decide) ?_
        refine k_zret rfl rfl (by decide) (Nat.le_refl _) (Nat.le_refl _) ?_
        rw [show decide (0 < lfN s (s_told s)) = false from decide_eq_false (by omega)] at hQ; exact hQ
      · refine k_iconst (v := nI 1) rfl (by decide) ?_
        refine k_goto rfl ?_
        refine k_zret rfl rfl (by decide) (Nat.le_refl _) (Nat.le_refl _) ?_
        rw [show decide (0 < lfN s (s_told s)) = true from decide_eq_true (by omega)] at hQ; exact hQ
theorem c_R_found {g : Gx} {h : Hp} {m d : Nat} {s : St} {Q : Option Value → Hp → Prop} (P : PR g h m s) (I : Inv s) (p : Int32) (hQ : Q (some (.long (fdS s p))) h) : Ct g M_R_found (d + 2) 0 0 [.ref m, .int p] h Q := by
  have S := pr_S P
  have bT := v_told I
  have bL := v_lkr I
  refine ct_of ok_R_found (by decide) (Nat.le_of_ble_eq_true rfl) [some (.ref m), some (.int p), none, none, none] rfl rfl ?_
  have hws := wsN_le I (s_told s) (Nat.le_refl _)
  have hwo := wo_le I (s_pl s) (s_told s) (Nat.le_refl _)
  refine k_lconst (v := lN 0) rfl (by decide) ?_
  refine k_lst2 rfl rfl ?_
  refine k_iconst (v := nI 0) rfl (by decide) ?_
  refine k_ist4 rfl rfl ?_
  suffices H : ∀ (q i : Nat), i + q = s_told s → Om g M_R_found (d + 2) Q h 5 [some (.ref m), some (.int p), some (.long (lN (wsN s i))), none, some (.int (nI i))] [] from H _ 0 (Nat.zero_add _)
  intro q
  induction q with
  | zero =>
    intro i hi
    have ei : i = s_told s := by omega
    subst ei
    refine k_iload rfl rfl ?_
    refine k_aload_n rfl rfl ?_
    refine k_gI rfl rfl (sr_o S) (pr_told P) ?_
    refine kn_ge rfl (by omega) (by omega) (fun c11 => ?_) (fun c11 => ?_)
    · refine k_aload_n rfl rfl ?_
      refine k_aload_n rfl rfl ?_
      refine k_getR rfl rfl (sr_o S) (sr_plan S) ?_
      refine k_cV1 rfl cw_R_worth wd_507 (sr_o S) rfl (by decide) (Nat.le_of_ble_eq_true rfl) ?_
      refine c_R_worth (F := s_pl s) P I (sr_a7 S) (fun l k h1 h2 => pr_pl P l k (by omega) (by omega)) (fun l k h1 h2 => by have := v_pl I l k (by omega) (by omega); omega) ?_
      refine k_lload_n rfl rfl ?_
      refine k_ldc2 rfl wd_515 ?_
      rw [lN_W]
      refine k_lmulN rfl ?_
      refine k_iload_n rfl rfl ?_
      refine k_cS3 rfl cw_R_part wd_557 (by decide) (Nat.le_of_ble_eq_true rfl) ?_
      refine c_R_part (by omega) (by omega) ?_
      refine k_lret rfl rfl (Nat.le_refl _) (Nat.le_refl _) ?_
      exact hQ
    · exact absurd c11 (by omega)
  | succ q ih =>
    intro i hi
    have hk : i < s_told s := by omega
    refine k_iload rfl rfl ?_
    refine k_aload_n rfl rfl ?_
    refine k_gI rfl rfl (sr_o S) (pr_told P) ?_
    refine kn_ge rfl (by omega) (by omega) (fun c11 => ?_) (fun c11 => ?_)
    · exact absurd c11 (by omega)
    · refine k_lload_n rfl rfl ?_
      refine k_aload_n rfl rfl ?_
      refine k_iload rfl rfl ?_
      refine k_cV1 rfl cw_R_weight wd_511 (sr_o S) rfl (by decide) (Nat.le_of_ble_eq_true rfl) ?_
      refine c_R_weight P I hk ?_
      refine k_i2lN rfl (by have := wt_le I hk; omega) ?_
      refine k_laddN rfl ?_
      refine k_lst2 rfl rfl ?_
      refine k_incN4 rfl rfl ?_
      refine k_goto rfl ?_
      exact ih (i + 1) (by omega)
theorem c_R_of {g : Gx} {h : Hp} {m d : Nat} {s : St} {Q : Option Value → Hp → Prop} (P : PR g h m s) (I : Inv s) (l c : Int32) (hQ : Q (some (.int (ofS s l c))) h) : Ct g M_R_of (d + 1) 0 0 [.ref m, .int l, .int c] h Q := by
  have S := pr_S P
  have bT := v_told I
  have bL := v_lkr I
  refine ct_of ok_R_of (by decide) (Nat.le_of_ble_eq_true rfl) [some (.ref m), some (.int l), some (.int c)] rfl rfl ?_
  unfold ofS at hQ
  cases hp : plS s c with
  | none =>
    rw [hp] at hQ
    refine k_aload_n rfl rfl ?_
    refine k_iload_n rfl rfl ?_
    refine k_cV1 rfl cw_R_isLooker wd_484 (sr_o S) rfl (by decide) (Nat.le_of_ble_eq_true rfl) ?_
    refine c_R_isLooker P I l ?_
    refine kb_eq rfl (fun c5 => ?_) (fun c5 => ?_)
    · refine k_iconst (v := -1) rfl (by decide) ?_
      refine k_goto rfl ?_
      refine k_iret rfl rfl (Nat.le_refl _) (Nat.le_refl _) ?_
      rw [c5] at hQ; exact hQ
    · refine k_aload_n rfl rfl ?_
      refine k_iload_n rfl rfl ?_
      refine k_cV1 rfl cw_R_isCell wd_450 (sr_o S) rfl (by decide) (Nat.le_of_ble_eq_true rfl) ?_
      refine c_R_isCell P I c ?_
      refine kb_ne rfl (fun c13 => ?_) (fun c13 => ?_)
      · refine k_aload_n rfl rfl ?_
        refine k_iload_n rfl rfl ?_
        refine k_cV1 rfl cw_R_place wd_455 (sr_o S) rfl (by decide) (Nat.le_of_ble_eq_true rfl) ?_
        refine c_R_place P I c ?_
        rw [hp]
        refine k_iconst (v := -1) rfl (by decide) ?_
        refine k_icmp_ne rfl (fun c26 => ?_) (fun c26 => ?_)
        · exact absurd rfl c26
        · refine k_iconst (v := nI 0) rfl (by decide) ?_
          refine k_goto rfl ?_
          refine k_iret rfl rfl (Nat.le_refl _) (Nat.le_refl _) ?_
          rw [c5, c13] at hQ; exact hQ
      · refine k_iconst (v := -1) rfl (by decide) ?_
        refine k_goto rfl ?_
        refine k_iret rfl rfl (Nat.le_refl _) (Nat.le_refl _) ?_
        rw [c5, c13] at hQ; exact hQ
  | some k =>
    have hk := plS_lt hp
    rw [hp] at hQ
    refine k_aload_n rfl rfl ?_
    refine k_iload_n rfl rfl ?_
    refine k_cV1 rfl cw_R_isLooker wd_484 (sr_o S) rfl (by decide) (Nat.le_of_ble_eq_true rfl) ?_
    refine c_R_isLooker P I l ?_
    refine kb_eq rfl (fun c5 => ?_) (fun c5 => ?_)
    · refine k_iconst (v := -1) rfl (by decide) ?_
      refine k_goto rfl ?_
      refine k_iret rfl rfl (Nat.le_refl _) (Nat.le_refl _) ?_
      rw [c5] at hQ; exact hQ
    · obtain ⟨l0, hl0, el, ecl⟩ := isc_of (by omega) c5
      refine k_aload_n rfl rfl ?_
      refine k_iload_n rfl rfl ?_
      refine k_cV1 rfl cw_R_isCell wd_450 (sr_o S) rfl (by decide) (Nat.le_of_ble_eq_true rfl) ?_
      refine c_R_isCell P I c ?_
      refine kb_ne rfl (fun c13 => ?_) (fun c13 => ?_)
      · refine k_aload_n rfl rfl ?_
        refine k_iload_n rfl rfl ?_
        refine k_cV1 rfl cw_R_place wd_455 (sr_o S) rfl (by decide) (Nat.le_of_ble_eq_true rfl) ?_
        refine c_R_place P I c ?_
        rw [hp]
        refine k_iconst (v := -1) rfl (by decide) ?_
        refine k_icmp_ne rfl (fun c26 => ?_) (fun c26 => ?_)
        · refine k_aload_n rfl rfl ?_
          refine k_getR rfl rfl (sr_o S) (sr_plan S) ?_
          refine k_bipush (v := nI 40) rfl (by decide) ?_
          refine k_iload_n rfl rfl ?_
          refine k_imul rfl ?_
          refine k_aload_n rfl rfl ?_
          refine k_iload_n rfl rfl ?_
          refine k_cV1 rfl cw_R_place wd_455 (sr_o S) rfl (by decide) (Nat.le_of_ble_eq_true rfl) ?_
          refine c_R_place P I c ?_
          rw [hp]
          refine k_iadd rfl ?_
          refine k_iA rfl (sr_a7 S) (j := 40 * l0 + k) (by rw [el]; exact ix40 l0 k) (by omega) (by decide) (pr_pl P l0 k (by omega) (by omega)) ?_
          refine k_iret rfl rfl (Nat.le_refl _) (Nat.le_refl _) ?_
          rw [c5, c13, ecl] at hQ; exact hQ
        · exact absurd c26 (nI_m1 (by omega))
      · refine k_iconst (v := -1) rfl (by decide) ?_
        refine k_goto rfl ?_
        refine k_iret rfl rfl (Nat.le_refl _) (Nat.le_refl _) ?_
        rw [c5, c13] at hQ; exact hQ
theorem c_R_covers {g : Gx} {h : Hp} {m d : Nat} {s : St} {Q : Option Value → Hp → Prop} (P : PR g h m s) (I : Inv s) (c : Int32) (hQ : Q (some (.int (bI (cvS s c)))) h) : Ct g M_R_covers (d + 1) 0 0 [.ref m, .int c] h Q := by
  have S := pr_S P
  have bT := v_told I
  have bL := v_lkr I
  refine ct_of ok_R_covers (by decide) (Nat.le_of_ble_eq_true rfl) [some (.ref m), some (.int c)] rfl rfl ?_
  unfold cvS at hQ
  cases hp : plS s c with
  | none =>
    rw [hp] at hQ
    refine k_aload_n rfl rfl ?_
    refine k_iload_n rfl rfl ?_
    refine k_cV1 rfl cw_R_isCell wd_450 (sr_o S) rfl (by decide) (Nat.le_of_ble_eq_true rfl) ?_
    refine c_R_isCell P I c ?_
    refine kb_eq rfl (fun c5 => ?_) (fun c5 => ?_)
    · refine k_iconst (v := nI 0) rfl (by decide) ?_
      refine k_zret rfl rfl (by decide) (Nat.le_refl _) (Nat.le_refl _) ?_
      rw [c5] at hQ; exact hQ
    · refine k_aload_n rfl rfl ?_
      refine k_iload_n rfl rfl ?_
      refine k_cV1 rfl cw_R_place wd_455 (sr_o S) rfl (by decide) (Nat.le_of_ble_eq_true rfl) ?_
      refine c_R_place P I c ?_
      rw [hp]
      refine k_iconst (v := -1) rfl (by decide) ?_
      refine k_icmp_eq rfl (fun c14 => ?_) (fun c14 => ?_)
      · refine k_iconst (v := nI 0) rfl (by decide) ?_
        refine k_zret rfl rfl (by decide) (Nat.le_refl _) (Nat.le_refl _) ?_
        rw [c5] at hQ; exact hQ
      · exact absurd rfl c14
  | some k =>
    have hk := plS_lt hp
    rw [hp] at hQ
    refine k_aload_n rfl rfl ?_
    refine k_iload_n rfl rfl ?_
    refine k_cV1 rfl cw_R_isCell wd_450 (sr_o S) rfl (by decide) (Nat.le_of_ble_eq_true rfl) ?_
    refine c_R_isCell P I c ?_
    refine kb_eq rfl (fun c5 => ?_) (fun c5 => ?_)
    · refine k_iconst (v := nI 0) rfl (by decide) ?_
      refine k_zret rfl rfl (by decide) (Nat.le_refl _) (Nat.le_refl _) ?_
      rw [c5] at hQ; exact hQ
    · refine k_aload_n rfl rfl ?_
      refine k_iload_n rfl rfl ?_
      refine k_cV1 rfl cw_R_place wd_455 (sr_o S) rfl (by decide) (Nat.le_of_ble_eq_true rfl) ?_
      refine c_R_place P I c ?_
      rw [hp]
      refine k_iconst (v := -1) rfl (by decide) ?_
      refine k_icmp_eq rfl (fun c14 => ?_) (fun c14 => ?_)
      · exact absurd c14 (nI_m1 (by omega))
      · refine k_iconst (v := nI 1) rfl (by decide) ?_
        refine k_goto rfl ?_
        refine k_zret rfl rfl (by decide) (Nat.le_refl _) (Nat.le_refl _) ?_
        rw [c5] at hQ; exact hQ
theorem lf_al (s : St) : ∀ k, lfN s k ≤ alN s k * 268738560000
  | 0 => by simp [lfN, alN]
  | k + 1 => by
    have h1 := lf_al s k
    have h2 : s_cn s 0 k * msN s (fun l => s_ld s l k) k ≤ s_cn s 0 k * 268738560000 := Nat.mul_le_mul_left _ (msN_le _ _ _)
    simp only [lfN, alN]; rw [Nat.add_mul]; omega
theorem c_R_stops {g : Gx} {h : Hp} {m d : Nat} {s : St} {Q : Option Value → Hp → Prop} (P : PR g h m s) (I : Inv s) (hQ : Q (some (.int (stS s))) h) : Ct g M_R_stops (d + 2) 0 0 [.ref m] h Q := by
  have S := pr_S P
  have bT := v_told I
  have bL := v_lkr I
  refine ct_of ok_R_stops (by decide) (Nat.le_of_ble_eq_true rfl) [some (.ref m)] rfl rfl ?_
  have hal := alN_le I (s_told s) (Nat.le_refl _)
  have hlf := lfN_le I (s_told s) (Nat.le_refl _)
  have hab := v_ab I
  have hbl := v_bl I
  have hcb := v_cells I
  have hll : lfN s (s_told s) ≤ alN s (s_told s) * 268738560000 := lf_al s (s_told s)
  have b1 : (alN s (s_told s) * 268738560000 - lfN s (s_told s)) * s_bl s ≤ 10749542400000000 * 100 := Nat.mul_le_mul (show alN s (s_told s) * 268738560000 - lfN s (s_told s) ≤ 10749542400000000 by omega) hbl
  have b2 : s_ab s * alN s (s_told s) ≤ 100 * 40000 := Nat.mul_le_mul (show s_ab s ≤ 100 by omega) (show alN s (s_told s) ≤ 40000 by omega)
  unfold stS at hQ
  refine k_aload_n rfl rfl ?_
  refine k_gL rfl rfl (sr_o S) (pr_bl P) ?_
  refine k_lconst (v := lN 0) rfl (by decide) ?_
  refine klN_eq rfl rfl (by omega) (by omega) (fun c5 => ?_) (fun c5 => ?_)
  · refine k_iconst (v := -1) rfl (by decide) ?_
    refine k_iret rfl rfl (Nat.le_refl _) (Nat.le_refl _) ?_
    rw [if_pos (Or.inl c5)] at hQ; exact hQ
  · refine k_aload_n rfl rfl ?_
    refine k_cV0 rfl cw_R_all wd_553 (sr_o S) rfl (by decide) (Nat.le_of_ble_eq_true rfl) ?_
    refine c_R_all P I ?_
    refine k_lconst (v := lN 0) rfl (by decide) ?_
    refine klN_ne rfl rfl (by omega) (by omega) (fun c14 => ?_) (fun c14 => ?_)
    · refine k_aload_n rfl rfl ?_
      refine k_gI rfl rfl (sr_o S) (pr_seen P) ?_
      refine k_iconst (v := -1) rfl (by decide) ?_
      refine k_icmp_ne rfl (fun c25 => ?_) (fun c25 => ?_)
      · have hse : s_seen s ≠ none := fun z => c25 (by rw [z]; rfl)
        refine k_iconst (v := nI 1) rfl (by decide) ?_
        refine k_goto rfl ?_
        refine k_iret rfl rfl (Nat.le_refl _) (Nat.le_refl _) ?_
        rw [if_neg (by omega), if_pos (Or.inl hse)] at hQ; exact hQ
      · have hse : ¬ s_seen s ≠ none := by
          cases hs : s_seen s with
          | none => simp
          | some q => rw [hs] at c25; exact absurd c25 (nI_m1 (by have := v_seen I q hs; omega))
        refine k_aload_n rfl rfl ?_
        refine k_cV0 rfl cw_R_all wd_553 (sr_o S) rfl (by decide) (Nat.le_of_ble_eq_true rfl) ?_
        refine c_R_all P I ?_
        refine k_ldc2 rfl wd_515 ?_
        rw [lN_W]
        refine k_lmulN rfl ?_
        refine k_aload_n rfl rfl ?_
        refine k_cV0 rfl cw_R_left wd_567 (sr_o S) rfl (by decide) (Nat.le_of_ble_eq_true rfl) ?_
        refine c_R_left P I ?_
        refine k_lsubN rfl hll ?_
        refine k_aload_n rfl rfl ?_
        refine k_gL rfl rfl (sr_o S) (pr_bl P) ?_
        refine k_lmulN rfl ?_
        refine k_aload_n rfl rfl ?_
        refine k_gL rfl rfl (sr_o S) (pr_ab P) ?_
        refine k_aload_n rfl rfl ?_
        refine k_cV0 rfl cw_R_all wd_553 (sr_o S) rfl (by decide) (Nat.le_of_ble_eq_true rfl) ?_
        refine c_R_all P I ?_
        refine k_lmulN rfl ?_
        refine k_ldc2 rfl wd_515 ?_
        rw [lN_W]
        refine k_lmulN rfl ?_
        refine klN_lt rfl rfl (by omega) (by omega) (fun c59 => ?_) (fun c59 => ?_)
        · refine k_iconst (v := nI 0) rfl (by decide) ?_
          refine k_iret rfl rfl (Nat.le_refl _) (Nat.le_refl _) ?_
          rw [if_neg (by omega), if_neg (by simp only [not_or]; exact ⟨hse, by omega⟩)] at hQ; exact hQ
        · refine k_iconst (v := nI 1) rfl (by decide) ?_
          refine k_goto rfl ?_
          refine k_iret rfl rfl (Nat.le_refl _) (Nat.le_refl _) ?_
          rw [if_neg (by omega), if_pos (Or.inr (by omega))] at hQ; exact hQ
    · refine k_iconst (v := -1) rfl (by decide) ?_
      refine k_iret rfl rfl (Nat.le_refl _) (Nat.le_refl _) ?_
      rw [if_pos (Or.inr c14)] at hQ; exact hQ
theorem c_R_rank {g : Gx} {h : Hp} {m d : Nat} {s : St} {Q : Option Value → Hp → Prop} (P : PR g h m s) (I : Inv s) {k : Nat} (hk : k < s_told s) (hQ : Q (some (.long (lN (rk s k)))) h) : Ct g M_R_rank (d + 1) 0 0 [.ref m, .int (nI k)] h Q := by
  have S := pr_S P
  have bT := v_told I
  have bL := v_lkr I
  refine ct_of ok_R_rank (by decide) (Nat.le_of_ble_eq_true rfl) [some (.ref m), some (.int (nI k))] rfl rfl ?_
  have bK := v_lks I
  have hld : ∀ l k, l < s_lkr s → k < s_told s → s_ld s l k ≤ 20000 := fun l k h1 h2 => by have := v_ld I l k (by omega) h2; omega
  have hcb := v_cells I
  have hnb := v_num I k hk
  have hc := v_cn I 0 k (by decide) hk
  unfold rk at hQ
  cases hs : s_seen s with
  | some q =>
    have hq := v_seen I q hs
    rw [hs] at hQ
    simp only at hQ
    refine k_aload_n rfl rfl ?_
    refine k_gI (x := nI q) rfl rfl (sr_o S) ((pr_seen P).trans (by rw [hs]; rfl)) ?_
    refine k_iconst (v := -1) rfl (by decide) ?_
    refine k_icmp_eq rfl (fun c5 => ?_) (fun c5 => ?_)
    · exact absurd c5 (nI_m1 (by omega))
    · refine k_aload_n rfl rfl ?_
      refine k_getR rfl rfl (sr_o S) (sr_cell S) ?_
      refine k_iload_n rfl rfl ?_
      refine k_iA rfl (sr_a1 S) rfl (by omega) (by decide) (pr_num P k hk) ?_
      refine k_aload_n rfl rfl ?_
      refine k_gI (x := nI q) rfl rfl (sr_o S) ((pr_seen P).trans (by rw [hs]; rfl)) ?_
      refine kn_ne rfl (by omega) (by omega) (fun c18 => ?_) (fun c18 => ?_)
      · refine k_lconst (v := lN 0) rfl (by decide) ?_
        refine k_goto rfl ?_
        refine k_lret rfl rfl (Nat.le_refl _) (Nat.le_refl _) ?_
        rw [if_neg c18] at hQ; exact hQ
      · refine k_lconst (v := lN 1) rfl (by decide) ?_
        refine k_goto rfl ?_
        refine k_lret rfl rfl (Nat.le_refl _) (Nat.le_refl _) ?_
        rw [if_pos c18] at hQ; exact hQ
  | none =>
    rw [hs] at hQ
    refine k_aload_n rfl rfl ?_
    refine k_gI (x := -1) rfl rfl (sr_o S) ((pr_seen P).trans (by rw [hs]; rfl)) ?_
    refine k_iconst (v := -1) rfl (by decide) ?_
    refine k_icmp_eq rfl (fun c5 => ?_) (fun c5 => ?_)
    · refine k_aload_n rfl rfl ?_
      refine k_getR rfl rfl (sr_o S) (sr_count S) ?_
      refine k_iload_n rfl rfl ?_
      refine k_iA rfl (sr_a3 S) (c0_ix k) (by omega) (by decide) (pr_cn P 0 k (by decide) hk) ?_
      refine k_i2lN rfl (by omega) ?_
      refine k_aload_n rfl rfl ?_
      refine k_aload_n rfl rfl ?_
      refine k_getR rfl rfl (sr_o S) (sr_looked S) ?_
      refine k_iload_n rfl rfl ?_
      refine k_cV2 rfl cw_R_missed wd_516 (sr_o S) rfl (by decide) (Nat.le_of_ble_eq_true rfl) ?_
      refine c_R_missed (f := fun l => s_ld s l k) P I (sr_a9 S) hk (fun l hl => pr_ld P l k (by omega) hk) (fun l hl => hld l k hl hk) ?_
      refine k_lmulN rfl ?_
      refine k_lret rfl rfl (Nat.le_refl _) (Nat.le_refl _) ?_
      exact hQ
    · exact absurd rfl c5
end
section
theorem pl_isc {s : St} (I : Inv s) {c : Int32} {k : Nat} (h : plS s c = some k) : isc (nI (s_cells s)) c = true := by
  have h1 := (plc_some _ _ _ h).2.2
  have h2 := plS_lt h
  have h3 := v_num I k h2
  have h4 := v_cells I
  rw [← h1]
  exact isc_t (nI_pos (by omega)) (nI_lt h3 (by omega))
/-- rows of w: the greatest divisor whose square is not above a -/
def rwF (a : Nat) : Nat → Nat → Nat → Nat
  | 0, _, w => w
  | q + 1, d, w => if d * d ≤ a then rwF a q (d + 1) (if a % d = 0 then d else w) else w
theorem rwF_pos (a : Nat) : ∀ q d w, 0 < d → 0 < w → 0 < rwF a q d w
  | 0, _, _, _, h => h
  | q + 1, d, w, hd, h => by
    simp only [rwF]
    split
    · refine rwF_pos a q (d + 1) _ (by omega) ?_
      split <;> omega
    · exact h
theorem rwF_le (a B : Nat) : ∀ q d w, d + q ≤ B → w ≤ B → rwF a q d w ≤ B
  | 0, _, _, _, h => h
  | q + 1, d, w, hd, h => by
    simp only [rwF]
    split
    · refine rwF_le a B q (d + 1) _ (by omega) ?_
      split <;> omega
    · exact h
def rwN (a : Nat) : Nat := rwF a 27 1 1
theorem rwN_pos (a : Nat) : 0 < rwN a := rwF_pos a _ _ _ (by decide) (by decide)
theorem rwN_le (a : Nat) : rwN a ≤ 28 := rwF_le a 28 _ _ _ (by decide) (by decide)
def lnN (a k : Nat) (ax : Int32) : Nat := if ax = 1 then k / rwN a else if k / rwN a % 2 = 0 then k % rwN a else rwN a - 1 - k % rwN a
def lnS (s : St) (c k ax : Int32) : Int32 := match plS s c with
  | none => -1
  | some i => if ax < 0 ∨ 1 < ax ∨ k < 0 ∨ nI (s_ar s i) ≤ k then -1 else nI (lnN (s_ar s i) k.toNatClampNeg ax)
theorem c_R_line {g : Gx} {h : Hp} {m d : Nat} {s : St} {Q : Option Value → Hp → Prop} (P : PR g h m s) (I : Inv s) (c k ax : Int32) (hQ : Q (some (.int (lnS s c k ax))) h) : Ct g M_R_line (d + 1) 0 0 [.ref m, .int c, .int k, .int ax] h Q := by
  have S := pr_S P
  have bT := v_told I
  have bL := v_lkr I
  refine ct_of ok_R_line (by decide) (Nat.le_of_ble_eq_true rfl) [some (.ref m), some (.int c), some (.int k), some (.int ax), none, none, none] rfl rfl ?_
  unfold lnS at hQ
  cases hp : plS s c with
  | none =>
    rw [hp] at hQ
    refine k_aload_n rfl rfl ?_
    refine k_iload_n rfl rfl ?_
    refine k_cV1 rfl cw_R_isCell wd_450 (sr_o S) rfl (by decide) (Nat.le_of_ble_eq_true rfl) ?_
    refine c_R_isCell P I c ?_
    refine kb_eq rfl (fun c5 => ?_) (fun c5 => ?_)
    · refine k_iconst (v := -1) rfl (by decide) ?_
      refine k_iret rfl rfl (Nat.le_refl _) (Nat.le_refl _) ?_
      exact hQ
    · refine k_aload_n rfl rfl ?_
      refine k_iload_n rfl rfl ?_
      refine k_cV1 rfl cw_R_place wd_455 (sr_o S) rfl (by decide) (Nat.le_of_ble_eq_true rfl) ?_
      refine c_R_place P I c ?_
      rw [hp]
      refine k_iconst (v := -1) rfl (by decide) ?_
      refine k_icmp_eq rfl (fun c14 => ?_) (fun c14 => ?_)
      · refine k_iconst (v := -1) rfl (by decide) ?_
        refine k_iret rfl rfl (Nat.le_refl _) (Nat.le_refl _) ?_
        exact hQ
      · exact absurd rfl c14
  | some i =>
    have hi := plS_lt hp
    have ha := v_ar I i hi
    have hal := ar_le I hi
    rw [hp] at hQ
    simp only at hQ
    refine k_aload_n rfl rfl ?_
    refine k_iload_n rfl rfl ?_
    refine k_cV1 rfl cw_R_isCell wd_450 (sr_o S) rfl (by decide) (Nat.le_of_ble_eq_true rfl) ?_
    refine c_R_isCell P I c ?_
    refine kb_eq rfl (fun c5 => ?_) (fun c5 => ?_)
    · exact absurd (pl_isc I hp) (by rw [c5]; decide)
    · refine k_aload_n rfl rfl ?_
      refine k_iload_n rfl rfl ?_
      refine k_cV1 rfl cw_R_place wd_455 (sr_o S) rfl (by decide) (Nat.le_of_ble_eq_true rfl) ?_
      refine c_R_place P I c ?_
      rw [hp]
      refine k_iconst (v := -1) rfl (by decide) ?_
      refine k_icmp_eq rfl (fun c14 => ?_) (fun c14 => ?_)
      · exact absurd c14 (nI_m1 (by omega))
      · refine k_iload_n rfl rfl ?_
        refine k_if_lt rfl (fun c18 => ?_) (fun c18 => ?_)
        · refine k_iconst (v := -1) rfl (by decide) ?_
          refine k_iret rfl rfl (Nat.le_refl _) (Nat.le_refl _) ?_
          rw [if_pos (Or.inl c18)] at hQ; exact hQ
        · refine k_iload_n rfl rfl ?_
          refine k_iconst (v := 1) rfl (by decide) ?_
          refine k_icmp_gt rfl (fun c23 => ?_) (fun c23 => ?_)
          · refine k_iconst (v := -1) rfl (by decide) ?_
            refine k_iret rfl rfl (Nat.le_refl _) (Nat.le_refl _) ?_
            rw [if_pos (Or.inr (Or.inl c23))] at hQ; exact hQ
          · refine k_iload_n rfl rfl ?_
            refine k_if_lt rfl (fun c27 => ?_) (fun c27 => ?_)
            · refine k_iconst (v := -1) rfl (by decide) ?_
              refine k_iret rfl rfl (Nat.le_refl _) (Nat.le_refl _) ?_
              rw [if_pos (Or.inr (Or.inr (Or.inl c27)))] at hQ; exact hQ
            · refine k_iload_n rfl rfl ?_
              refine k_aload_n rfl rfl ?_
              refine k_getR rfl rfl (sr_o S) (sr_areas S) ?_
              refine k_aload_n rfl rfl ?_
              refine k_iload_n rfl rfl ?_
              refine k_cV1 rfl cw_R_place wd_455 (sr_o S) rfl (by decide) (Nat.le_of_ble_eq_true rfl) ?_
              refine c_R_place P I c ?_
              rw [hp]
              refine k_iA rfl (sr_a2 S) (j := i) rfl (by omega) (by decide) (pr_ar P i hi) ?_
              refine k_icmp_lt rfl (fun c41 => ?_) (fun c41 => ?_)
              · rw [if_neg (fun z => z.elim c18 (fun z => z.elim (fun z => absurd z (Int32.not_lt.mpr (Int32.not_lt.mp c23))) (fun z => z.elim c27 (fun z => absurd c41 (Int32.not_lt.mpr z)))))] at hQ
                obtain ⟨j, hj, ej, ecl⟩ := isc_of (n := s_ar s i) (by omega) (isc_t c27 c41)
                rw [ecl] at hQ
                clear ecl
                subst ej
                refine k_aload_n rfl rfl ?_
                refine k_getR rfl rfl (sr_o S) (sr_areas S) ?_
                refine k_aload_n rfl rfl ?_
                refine k_iload_n rfl rfl ?_
                refine k_cV1 rfl cw_R_place wd_455 (sr_o S) rfl (by decide) (Nat.le_of_ble_eq_true rfl) ?_
                refine c_R_place P I c ?_
                rw [hp]
                refine k_iA rfl (sr_a2 S) (j := i) rfl (by omega) (by decide) (pr_ar P i hi) ?_
                refine k_ist4 rfl rfl ?_
                refine k_iconst (v := nI 1) rfl (by decide) ?_
                refine k_ist5 rfl rfl ?_
                refine k_iconst (v := nI 1) rfl (by decide) ?_
                refine k_ist6 rfl rfl ?_
                suffices H : ∀ (q d0 w0 : Nat), d0 + q = 28 → 0 < d0 → 0 < w0 → w0 ≤ 28 → rwN (s_ar s i) = rwF (s_ar s i) q d0 w0 → Om g M_R_line (d + 1) Q h 64 [some (.ref m), some (.int c), some (.int (nI j)), some (.int ax), some (.int (nI (s_ar s i))), some (.int (nI w0)), some (.int (nI d0))] [] from H 27 1 1 rfl (by decide) (by decide) (by decide) rfl
                have J : ∀ (w0 d0 : Nat), rwN (s_ar s i) = w0 → Om g M_R_line (d + 1) Q h 97 [some (.ref m), some (.int c), some (.int (nI j)), some (.int ax), some (.int (nI (s_ar s i))), some (.int (nI w0)), some (.int (nI d0))] [] := by
                  intro w0 d0 ew
                  have hw1 := rwN_pos (s_ar s i)
                  have hw2 := rwN_le (s_ar s i)
                  rw [ew] at hw1 hw2
                  have hd1 : j / w0 ≤ j := Nat.div_le_self _ _
                  have hm1 : j % w0 < w0 := Nat.mod_lt _ hw1
                  unfold lnN at hQ
                  rw [ew] at hQ
                  refine k_iload_n rfl rfl ?_
                  refine k_iload rfl rfl ?_
                  refine k_idivN rfl (by omega) (by omega) (by omega) ?_
                  refine k_ist6 rfl rfl ?_
                  refine k_iload_n rfl rfl ?_
                  refine k_iconst (v := 1) rfl (by decide) ?_
                  refine k_icmp_ne rfl (fun c105 => ?_) (fun c105 => ?_)
                  · refine k_iload rfl rfl ?_
                    refine k_iconst (v := nI 2) rfl (by decide) ?_
                    refine k_iremN rfl (by omega) (by omega) (by omega) ?_
                    refine k_if_ne rfl (fun c117 => ?_) (fun c117 => ?_)
                    · have e2 : ¬ j / w0 % 2 = 0 := fun z => c117 (by rw [z]; rfl)
                      refine k_iload rfl rfl ?_
                      refine k_iconst (v := nI 1) rfl (by decide) ?_
                      refine k_isubN rfl (by omega) ?_
                      refine k_iload_n rfl rfl ?_
                      refine k_iload rfl rfl ?_
                      refine k_iremN rfl (by omega) (by omega) (by omega) ?_
                      refine k_isubN rfl (by omega) ?_
                      refine k_iret rfl rfl (Nat.le_refl _) (Nat.le_refl _) ?_
                      rw [if_neg c105, if_neg e2] at hQ; exact hQ
                    · have e2 : j / w0 % 2 = 0 := (nI_eq (by omega) (by decide)).mp c117
                      refine k_iload_n rfl rfl ?_
                      refine k_iload rfl rfl ?_
                      refine k_iremN rfl (by omega) (by omega) (by omega) ?_
                      refine k_goto rfl ?_
                      refine k_iret rfl rfl (Nat.le_refl _) (Nat.le_refl _) ?_
                      rw [if_neg c105, if_pos e2] at hQ; exact hQ
                  · refine k_iload rfl rfl ?_
                    refine k_goto rfl ?_
                    refine k_iret rfl rfl (Nat.le_refl _) (Nat.le_refl _) ?_
                    rw [if_pos c105] at hQ; exact hQ
                intro q
                induction q with
                | zero =>
                  intro d0 w0 h1 h2 h3 h4 e
                  obtain rfl : d0 = 28 := by omega
                  refine k_iload rfl rfl ?_
                  refine k_iload rfl rfl ?_
                  refine k_imulN rfl ?_
                  refine k_iload rfl rfl ?_
                  refine kn_gt rfl (by omega) (by omega) (fun c71 => ?_) (fun c71 => ?_)
                  · exact J _ _ e
                  · exact absurd c71 (by omega)
                | succ q ih =>
                  intro d0 w0 h1 h2 h3 h4 e
                  have hdd : d0 * d0 ≤ 28 * 28 := Nat.mul_le_mul (by omega) (by omega)
                  simp only [rwF] at e
                  refine k_iload rfl rfl ?_
                  refine k_iload rfl rfl ?_
                  refine k_imulN rfl ?_
                  refine k_iload rfl rfl ?_
                  refine kn_gt rfl (by omega) (by omega) (fun c71 => ?_) (fun c71 => ?_)
                  · rw [if_neg (by omega)] at e
                    exact J _ _ e
                  · rw [if_pos c71] at e
                    have hmd : s_ar s i % d0 < d0 := Nat.mod_lt _ h2
                    refine k_iload rfl rfl ?_
                    refine k_iload rfl rfl ?_
                    refine k_iremN rfl (by omega) (by omega) (by omega) ?_
                    refine k_if_ne rfl (fun c79 => ?_) (fun c79 => ?_)
                    · rw [if_neg (fun z => c79 (by rw [z]; rfl))] at e
                      refine k_iload rfl rfl ?_
                      refine k_ist5 rfl rfl ?_
                      refine k_incN6 rfl rfl ?_
                      refine k_goto rfl ?_
                      exact ih _ _ (by omega) (by omega) (by omega) (by omega) e
                    · rw [if_pos ((nI_eq (by omega) (by decide)).mp c79)] at e
                      refine k_iload rfl rfl ?_
                      refine k_goto rfl ?_
                      refine k_ist5 rfl rfl ?_
                      refine k_incN6 rfl rfl ?_
                      refine k_goto rfl ?_
                      exact ih _ _ (by omega) (by omega) (by omega) (by omega) e
              · refine k_iconst (v := -1) rfl (by decide) ?_
                refine k_iret rfl rfl (Nat.le_refl _) (Nat.le_refl _) ?_
                rw [if_pos (Or.inr (Or.inr (Or.inr (Int32.not_lt.mp c41))))] at hQ; exact hQ
theorem c_R_order {g : Gx} {h : Hp} {m d : Nat} {s : St} {Q : Option Value → Hp → Prop} (P : PR g h m s) (I : Inv s) (n : Int32) (hQ : Q (some (.int (orS s n))) h) : Ct g M_R_order (d + 2) 0 0 [.ref m, .int n] h Q := by
  have S := pr_S P
  have bT := v_told I
  have bL := v_lkr I
  refine ct_of ok_R_order (by decide) (Nat.le_of_ble_eq_true rfl) [some (.ref m), some (.int n), none, none, none] rfl rfl ?_
  unfold orS at hQ
  have hcb := v_cells I
  refine k_iload_n rfl rfl ?_
  refine k_if_lt rfl (fun c1 => ?_) (fun c1 => ?_)
  · refine k_iconst (v := -1) rfl (by decide) ?_
    refine k_iret rfl rfl (Nat.le_refl _) (Nat.le_refl _) ?_
    rw [isc_f1 c1] at hQ; exact hQ
  · refine k_iload_n rfl rfl ?_
    refine k_aload_n rfl rfl ?_
    refine k_gI rfl rfl (sr_o S) (pr_told P) ?_
    refine k_icmp_lt rfl (fun c9 => ?_) (fun c9 => ?_)
    · refine k_iconst (v := nI 0) rfl (by decide) ?_
      refine k_ist2 rfl rfl ?_
      rw [isc_t c1 c9] at hQ
      suffices H : ∀ (q k : Nat) (z3 z4 : Option Value), lc_1 z3 = true → k + q = s_told s → orF s n (s_told s) 0 = orF s n q k → Om g M_R_order (d + 2) Q h 16 [some (.ref m), some (.int n), some (.int (nI k)), z3, z4] [] from H _ 0 none none rfl (Nat.zero_add _) rfl
      intro q
      induction q with
      | zero =>
        intro k z3 z4 hz hk0 e
        simp only [cond_true, e, orF] at hQ
        refine k_iload_n rfl rfl ?_
        refine k_aload_n rfl rfl ?_
        refine k_gI rfl rfl (sr_o S) (pr_told P) ?_
        refine kn_ge rfl (by omega) (by omega) (fun c21 => ?_) (fun c21 => ?_)
        · refine k_iconst (v := -1) rfl (by decide) ?_
          refine k_iret rfl rfl (Nat.le_refl _) (Nat.le_refl _) ?_
          exact hQ
        · exact absurd c21 (by omega)
      | succ q ih =>
        intro k z3 z4 hz hk0 e
        have hkt : k < s_told s := by omega
        have hnb := v_num I k hkt
        have hrk := rk_le I hkt
        simp only [orF] at e
        refine k_iload_n rfl rfl ?_
        refine k_aload_n rfl rfl ?_
        refine k_gI rfl rfl (sr_o S) (pr_told P) ?_
        refine kn_ge rfl (by omega) (by omega) (fun c21 => ?_) (fun c21 => ?_)
        · exact absurd c21 (by omega)
        · refine k_iconst (v := nI 0) rfl (by decide) ?_
          refine k_ist3 rfl rfl ?_
          refine k_iconst (v := nI 0) rfl (by decide) ?_
          refine k_ist4 rfl rfl ?_
          suffices H2 : ∀ (q2 i : Nat), i + q2 = s_told s → Om g M_R_order (d + 2) Q h 29 [some (.ref m), some (.int n), some (.int (nI k)), some (.int (nI (bfO s k i))), some (.int (nI i))] [] from H2 _ 0 (Nat.zero_add _)
          intro q2
          induction q2 with
          | zero =>
            intro i hi
            have ei : i = s_told s := by omega
            subst ei
            refine k_iload rfl rfl ?_
            refine k_aload_n rfl rfl ?_
            refine k_gI rfl rfl (sr_o S) (pr_told P) ?_
            refine kn_ge rfl (by omega) (by omega) (fun c35 => ?_) (fun c35 => ?_)
            · refine k_iload_n rfl rfl ?_
              refine k_iload_n rfl rfl ?_
              refine k_icmp_ne rfl (fun c90 => ?_) (fun c90 => ?_)
              · refine k_incN2 rfl rfl ?_
                refine k_goto rfl ?_
                rw [if_neg c90] at e
                exact ih (k + 1) _ _ rfl (by omega) e
              · refine k_aload_n rfl rfl ?_
                refine k_getR rfl rfl (sr_o S) (sr_cell S) ?_
                refine k_iload_n rfl rfl ?_
                refine k_iA rfl (sr_a1 S) rfl (by omega) (by decide) (pr_num P k hkt) ?_
                refine k_iret rfl rfl (Nat.le_refl _) (Nat.le_refl _) ?_
                rw [if_pos c90] at e
                rw [e] at hQ
                exact hQ
            · exact absurd c35 (by omega)
          | succ q2 ih2 =>
            intro i hi
            have hik : i < s_told s := by omega
            have hri := rk_le I hik
            have hbo := bfO_le s k i
            refine k_iload rfl rfl ?_
            refine k_aload_n rfl rfl ?_
            refine k_gI rfl rfl (sr_o S) (pr_told P) ?_
            refine kn_ge rfl (by omega) (by omega) (fun c35 => ?_) (fun c35 => ?_)
            · exact absurd c35 (by omega)
            · refine k_iload_n rfl rfl ?_
              refine k_aload_n rfl rfl ?_
              refine k_iload rfl rfl ?_
              refine k_cV1 rfl cw_R_rank wd_595 (sr_o S) rfl (by decide) (Nat.le_of_ble_eq_true rfl) ?_
              refine c_R_rank P I hik ?_
              refine k_aload_n rfl rfl ?_
              refine k_iload_n rfl rfl ?_
              refine k_cV1 rfl cw_R_rank wd_595 (sr_o S) rfl (by decide) (Nat.le_of_ble_eq_true rfl) ?_
              refine c_R_rank P I hkt ?_
              refine klN_gt rfl rfl (by omega) (by omega) (fun c50 => ?_) (fun c50 => ?_)
              · refine k_iconst (v := nI 1) rfl (by decide) ?_
                refine k_goto rfl ?_
                refine k_iaddN rfl ?_
                refine k_ist3 rfl rfl ?_
                refine k_incN4 rfl rfl ?_
                refine k_goto rfl ?_
                have e9 := ih2 (i + 1) (by omega); simp only [bfO] at e9; rw [if_pos (Or.inl c50)] at e9; exact e9
              · refine k_aload_n rfl rfl ?_
                refine k_iload rfl rfl ?_
                refine k_cV1 rfl cw_R_rank wd_595 (sr_o S) rfl (by decide) (Nat.le_of_ble_eq_true rfl) ?_
                refine c_R_rank P I hik ?_
                refine k_aload_n rfl rfl ?_
                refine k_iload_n rfl rfl ?_
                refine k_cV1 rfl cw_R_rank wd_595 (sr_o S) rfl (by decide) (Nat.le_of_ble_eq_true rfl) ?_
                refine c_R_rank P I hkt ?_
                refine klN_ne rfl rfl (by omega) (by omega) (fun c65 => ?_) (fun c65 => ?_)
                · refine k_iconst (v := nI 0) rfl (by decide) ?_
                  refine k_iaddN rfl ?_
                  refine k_ist3 rfl rfl ?_
                  refine k_incN4 rfl rfl ?_
                  refine k_goto rfl ?_
                  have e9 := ih2 (i + 1) (by omega); simp only [bfO] at e9; rw [if_neg (by omega)] at e9; exact e9
                · refine k_iload rfl rfl ?_
                  refine k_iload_n rfl rfl ?_
                  refine kn_ge rfl (by omega) (by omega) (fun c72 => ?_) (fun c72 => ?_)
                  · refine k_iconst (v := nI 0) rfl (by decide) ?_
                    refine k_iaddN rfl ?_
                    refine k_ist3 rfl rfl ?_
                    refine k_incN4 rfl rfl ?_
                    refine k_goto rfl ?_
                    have e9 := ih2 (i + 1) (by omega); simp only [bfO] at e9; rw [if_neg (by omega)] at e9; exact e9
                  · refine k_iconst (v := nI 1) rfl (by decide) ?_
                    refine k_goto rfl ?_
                    refine k_iaddN rfl ?_
                    refine k_ist3 rfl rfl ?_
                    refine k_incN4 rfl rfl ?_
                    refine k_goto rfl ?_
                    have e9 := ih2 (i + 1) (by omega); simp only [bfO] at e9; rw [if_pos (by omega)] at e9; exact e9
    · refine k_iconst (v := -1) rfl (by decide) ?_
      refine k_iret rfl rfl (Nat.le_refl _) (Nat.le_refl _) ?_
      rw [isc_f2 c9] at hQ; exact hQ
end
section
def bfL (s : St) (k : Nat) : Nat → Nat
  | 0 => 0
  | i + 1 => bfL s k i + (if s_gt s i < s_gt s k ∨ (s_gt s i = s_gt s k ∧ i < k) then 1 else 0)
theorem bfL_le (s : St) (k : Nat) : ∀ i, bfL s k i ≤ i
  | 0 => Nat.le_refl _
  | i + 1 => by
    have := bfL_le s k i
    simp only [bfL]
    split <;> omega
def lgN (s : St) (k : Nat) (wh : Int32) : Int32 := if wh = 0 then nI (s_gl s k) else if wh = 1 then nI (s_gc s k) else if wh = 2 then nI (s_gh s k) else nI k
def lgF (s : St) (n wh : Int32) : Nat → Nat → Int32
  | 0, _ => -1
  | q + 1, i => if nI (bfL s i (s_lks s)) = n then lgN s i wh else lgF s n wh q (i + 1)
def lgS (s : St) (n wh : Int32) : Int32 := cond (isc (nI (s_lks s)) n && isc 4 wh) (lgF s n wh (s_lks s) 0) (-1)
theorem i34 {x : Int32} (h : x ≤ 3) : x < 4 := by
  rw [Int32.le_iff_toInt_le] at h
  rw [Int32.lt_iff_toInt_lt]
  exact Int.lt_add_one_of_le h
theorem i43 {x : Int32} (h : ¬ x ≤ 3) : ¬ x < 4 := by
  rw [Int32.le_iff_toInt_le] at h
  rw [Int32.lt_iff_toInt_lt]
  intro z
  exact h (Int.le_of_lt_add_one z)
theorem c_R_log {g : Gx} {h : Hp} {m d : Nat} {s : St} {Q : Option Value → Hp → Prop} (P : PR g h m s) (I : Inv s) (n wh : Int32) (hQ : Q (some (.int (lgS s n wh))) h) : Ct g M_R_log (d) 0 0 [.ref m, .int n, .int wh] h Q := by
  have S := pr_S P
  have bT := v_told I
  have bL := v_lkr I
  refine ct_of ok_R_log (by decide) (Nat.le_of_ble_eq_true rfl) [some (.ref m), some (.int n), some (.int wh), none, none, none] rfl rfl ?_
  have bK := v_lks I
  unfold lgS at hQ
  refine k_iload_n rfl rfl ?_
  refine k_if_lt rfl (fun c1 => ?_) (fun c1 => ?_)
  · refine k_iconst (v := -1) rfl (by decide) ?_
    refine k_iret rfl rfl (Nat.le_refl _) (Nat.le_refl _) ?_
    rw [isc_f1 c1] at hQ; exact hQ
  · refine k_iload_n rfl rfl ?_
    refine k_aload_n rfl rfl ?_
    refine k_gI rfl rfl (sr_o S) (pr_lks P) ?_
    refine k_icmp_ge rfl (fun c9 => ?_) (fun c9 => ?_)
    · refine k_iconst (v := -1) rfl (by decide) ?_
      refine k_iret rfl rfl (Nat.le_refl _) (Nat.le_refl _) ?_
      rw [isc_f2 (Int32.not_lt.mpr c9)] at hQ; exact hQ
    · refine k_iload_n rfl rfl ?_
      refine k_if_lt rfl (fun c13 => ?_) (fun c13 => ?_)
      · refine k_iconst (v := -1) rfl (by decide) ?_
        refine k_iret rfl rfl (Nat.le_refl _) (Nat.le_refl _) ?_
        rw [isc_f1 (n := 4) c13, Bool.and_false] at hQ; exact hQ
      · refine k_iload_n rfl rfl ?_
        refine k_iconst (v := 3) rfl (by decide) ?_
        refine k_icmp_le rfl (fun c18 => ?_) (fun c18 => ?_)
        · refine k_iconst (v := nI 0) rfl (by decide) ?_
          refine k_ist3 rfl rfl ?_
          rw [isc_t c1 (Int32.not_le.mp c9), isc_t c13 (i34 c18)] at hQ
          suffices H : ∀ (q k : Nat) (z4 z5 : Option Value), lc_1 z4 = true → k + q = s_lks s → lgF s n wh (s_lks s) 0 = lgF s n wh q k → Om g M_R_log d Q h 25 [some (.ref m), some (.int n), some (.int wh), some (.int (nI k)), z4, z5] [] from H _ 0 none none rfl (Nat.zero_add _) rfl
          intro q
          induction q with
          | zero =>
            intro k z4 z5 hz hk0 e
            simp only [Bool.and_self, cond_true, e, lgF] at hQ
            refine k_iload_n rfl rfl ?_
            refine k_aload_n rfl rfl ?_
            refine k_gI rfl rfl (sr_o S) (pr_lks P) ?_
            refine kn_ge rfl (by omega) (by omega) (fun c30 => ?_) (fun c30 => ?_)
            · refine k_iconst (v := -1) rfl (by decide) ?_
              refine k_iret rfl rfl (Nat.le_refl _) (Nat.le_refl _) ?_
              exact hQ
            · exact absurd c30 (by omega)
          | succ q ih =>
            intro k z4 z5 hz hk0 e
            have hkt : k < s_lks s := by omega
            have hgk := (v_log I k hkt).2.2.2.2
            simp only [Bool.and_self, cond_true] at hQ
            simp only [lgF] at e
            refine k_iload_n rfl rfl ?_
            refine k_aload_n rfl rfl ?_
            refine k_gI rfl rfl (sr_o S) (pr_lks P) ?_
            refine kn_ge rfl (by omega) (by omega) (fun c30 => ?_) (fun c30 => ?_)
            · exact absurd c30 (by omega)
            · refine k_iconst (v := nI 0) rfl (by decide) ?_
              refine k_ist4 rfl rfl ?_
              refine k_iconst (v := nI 0) rfl (by decide) ?_
              refine k_ist5 rfl rfl ?_
              suffices H2 : ∀ (q2 i : Nat), i + q2 = s_lks s → Om g M_R_log d Q h 39 [some (.ref m), some (.int n), some (.int wh), some (.int (nI k)), some (.int (nI (bfL s k i))), some (.int (nI i))] [] from H2 _ 0 (Nat.zero_add _)
              intro q2
              induction q2 with
              | zero =>
                intro i hi
                have ei : i = s_lks s := by omega
                subst ei
                refine k_iload rfl rfl ?_
                refine k_aload_n rfl rfl ?_
                refine k_gI rfl rfl (sr_o S) (pr_lks P) ?_
                refine kn_ge rfl (by omega) (by omega) (fun c45 => ?_) (fun c45 => ?_)
                · refine k_iload rfl rfl ?_
                  refine k_iload_n rfl rfl ?_
                  refine k_icmp_ne rfl (fun c107 => ?_) (fun c107 => ?_)
                  · refine k_incN3 rfl rfl ?_
                    refine k_goto rfl ?_
                    rw [if_neg c107] at e
                    exact ih (k + 1) _ _ rfl (by omega) e
                  · refine k_iload_n rfl rfl ?_
                    refine k_if_ne rfl (fun c111 => ?_) (fun c111 => ?_)
                    · refine k_iload_n rfl rfl ?_
                      refine k_iconst (v := 1) rfl (by decide) ?_
                      refine k_icmp_ne rfl (fun c125 => ?_) (fun c125 => ?_)
                      · refine k_iload_n rfl rfl ?_
                        refine k_iconst (v := 2) rfl (by decide) ?_
                        refine k_icmp_ne rfl (fun c139 => ?_) (fun c139 => ?_)
                        · refine k_iload_n rfl rfl ?_
                          refine k_iret rfl rfl (Nat.le_refl _) (Nat.le_refl _) ?_
                          rw [if_pos c107] at e; rw [e] at hQ; unfold lgN at hQ; rw [if_neg c111, if_neg c125, if_neg c139] at hQ; exact hQ
                        · refine k_aload_n rfl rfl ?_
                          refine k_getR rfl rfl (sr_o S) (sr_lookHours S) ?_
                          refine k_iload_n rfl rfl ?_
                          refine k_iA rfl (sr_a12 S) rfl (by omega) (by decide) (pr_gh P k hkt) ?_
                          refine k_goto rfl ?_
                          refine k_iret rfl rfl (Nat.le_refl _) (Nat.le_refl _) ?_
                          rw [if_pos c107] at e; rw [e] at hQ; unfold lgN at hQ; rw [if_neg c111, if_neg c125, if_pos c139] at hQ; exact hQ
                      · refine k_aload_n rfl rfl ?_
                        refine k_getR rfl rfl (sr_o S) (sr_lookCell S) ?_
                        refine k_iload_n rfl rfl ?_
                        refine k_iA rfl (sr_a11 S) rfl (by omega) (by decide) (pr_gc P k hkt) ?_
                        refine k_goto rfl ?_
                        refine k_iret rfl rfl (Nat.le_refl _) (Nat.le_refl _) ?_
                        rw [if_pos c107] at e; rw [e] at hQ; unfold lgN at hQ; rw [if_neg c111, if_pos c125] at hQ; exact hQ
                    · refine k_aload_n rfl rfl ?_
                      refine k_getR rfl rfl (sr_o S) (sr_lookLooker S) ?_
                      refine k_iload_n rfl rfl ?_
                      refine k_iA rfl (sr_a10 S) rfl (by omega) (by decide) (pr_gl P k hkt) ?_
                      refine k_goto rfl ?_
                      refine k_iret rfl rfl (Nat.le_refl _) (Nat.le_refl _) ?_
                      rw [if_pos c107] at e; rw [e] at hQ; unfold lgN at hQ; rw [if_pos c111] at hQ; exact hQ
                · exact absurd c45 (by omega)
              | succ q2 ih2 =>
                intro i hi
                have hik : i < s_lks s := by omega
                have hgi := (v_log I i hik).2.2.2.2
                have hbo := bfL_le s k i
                refine k_iload rfl rfl ?_
                refine k_aload_n rfl rfl ?_
                refine k_gI rfl rfl (sr_o S) (pr_lks P) ?_
                refine kn_ge rfl (by omega) (by omega) (fun c45 => ?_) (fun c45 => ?_)
                · exact absurd c45 (by omega)
                · refine k_iload rfl rfl ?_
                  refine k_aload_n rfl rfl ?_
                  refine k_getR rfl rfl (sr_o S) (sr_lookTold S) ?_
                  refine k_iload rfl rfl ?_
                  refine k_lA rfl (sr_a13 S) rfl (by omega) (by decide) (pr_gt P i hik) ?_
                  refine k_aload_n rfl rfl ?_
                  refine k_getR rfl rfl (sr_o S) (sr_lookTold S) ?_
                  refine k_iload_n rfl rfl ?_
                  refine k_lA rfl (sr_a13 S) rfl (by omega) (by decide) (pr_gt P k hkt) ?_
                  refine klN_lt rfl rfl (by omega) (by omega) (fun c63 => ?_) (fun c63 => ?_)
                  · refine k_iconst (v := nI 1) rfl (by decide) ?_
                    refine k_goto rfl ?_
                    refine k_iaddN rfl ?_
                    refine k_ist4 rfl rfl ?_
                    refine k_incN5 rfl rfl ?_
                    refine k_goto rfl ?_
                    have e9 := ih2 (i + 1) (by omega)
                    simp only [bfL] at e9
                    rw [if_pos (Or.inl c63)] at e9
                    exact e9
                  · refine k_aload_n rfl rfl ?_
                    refine k_getR rfl rfl (sr_o S) (sr_lookTold S) ?_
                    refine k_iload rfl rfl ?_
                    refine k_lA rfl (sr_a13 S) rfl (by omega) (by decide) (pr_gt P i hik) ?_
                    refine k_aload_n rfl rfl ?_
                    refine k_getR rfl rfl (sr_o S) (sr_lookTold S) ?_
                    refine k_iload_n rfl rfl ?_
                    refine k_lA rfl (sr_a13 S) rfl (by omega) (by decide) (pr_gt P k hkt) ?_
                    refine klN_ne rfl rfl (by omega) (by omega) (fun c80 => ?_) (fun c80 => ?_)
                    · refine k_iconst (v := nI 0) rfl (by decide) ?_
                      refine k_iaddN rfl ?_
                      refine k_ist4 rfl rfl ?_
                      refine k_incN5 rfl rfl ?_
                      refine k_goto rfl ?_
                      have e9 := ih2 (i + 1) (by omega)
                      simp only [bfL] at e9
                      rw [if_neg (by omega)] at e9
                      exact e9
                    · refine k_iload rfl rfl ?_
                      refine k_iload_n rfl rfl ?_
                      refine kn_ge rfl (by omega) (by omega) (fun c87 => ?_) (fun c87 => ?_)
                      · refine k_iconst (v := nI 0) rfl (by decide) ?_
                        refine k_iaddN rfl ?_
                        refine k_ist4 rfl rfl ?_
                        refine k_incN5 rfl rfl ?_
                        refine k_goto rfl ?_
                        have e9 := ih2 (i + 1) (by omega)
                        simp only [bfL] at e9
                        rw [if_neg (by omega)] at e9
                        exact e9
                      · refine k_iconst (v := nI 1) rfl (by decide) ?_
                        refine k_goto rfl ?_
                        refine k_iaddN rfl ?_
                        refine k_ist4 rfl rfl ?_
                        refine k_incN5 rfl rfl ?_
                        refine k_goto rfl ?_
                        have e9 := ih2 (i + 1) (by omega)
                        simp only [bfL] at e9
                        rw [if_pos (by omega)] at e9
                        exact e9
        · refine k_iconst (v := -1) rfl (by decide) ?_
          refine k_iret rfl rfl (Nat.le_refl _) (Nat.le_refl _) ?_
          rw [isc_f2 (i43 c18), Bool.and_false] at hQ; exact hQ
end
section
def LN (x : Int64) : Nat := x.toInt.toNat
theorem LN_of {x : Int64} (h : ¬ x < 0) : x = lN (LN x) ∧ LN x < 2 ^ 63 := by
  obtain ⟨k, h1, h2⟩ := pk_lOf h
  subst h2
  have h3 : LN (lN k) = k := by unfold LN; rw [pk_lT h1]; rfl
  rw [h3]
  exact ⟨rfl, h1⟩
theorem LN_le {x : Int64} {b : Nat} (h : ¬ x < 0) (hb : b < 2 ^ 63) (h2 : ¬ lN b < x) : LN x ≤ b := by
  obtain ⟨h3, h4⟩ := LN_of h
  rw [h3] at h2
  exact Nat.not_lt.mp (fun z => h2 ((pk_lLT hb h4).mpr z))
theorem LN_ge {x : Int64} {b : Nat} (hb : b < 2 ^ 63) (h0 : ¬ x < 0) (h2 : ¬ x < lN b) : b ≤ LN x := by
  obtain ⟨h3, h4⟩ := LN_of h0
  rw [h3] at h2
  exact Nat.not_lt.mp (fun z => h2 ((pk_lLT h4 hb).mpr z))
theorem nneg {x : Int64} {b : Nat} (hb : b < 2 ^ 63) (h : ¬ x < lN b) : ¬ x < 0 := fun z => h (by
  rw [Int64.lt_iff_toInt_lt] at z ⊢
  rw [pk_lT hb]
  have h0 : (0 : Int64).toInt = 0 := by decide
  omega)
/-- one more thing -/
def thS (s : St) : Int32 × St := if s_things s = 4 then (-1, s) else (nI (s_things s), zeroP (w_things s (s_things s + 1)))
def spS (s : St) (a b : Int64) : Bool × St := if a < 0 ∨ b < a ∨ b < 1 ∨ 100 < b then (false, s) else (true, zeroP (w_bl (w_ab s (LN a)) (LN b)))
def bdU (s : St) (l f t : Nat) : Nat → Nat → Bool := fun l1 q => s_bd s l1 q || (decide (l1 = l) && decide (f ≤ q) && decide (q < t))
def rsS (s : St) (l f t : Int32) : Bool × St := cond (isc (nI (s_lkr s)) l && decide (0 ≤ f) && decide (f < t) && decide (t ≤ nI 24)) (true, zeroP (w_bd s (bdU s l.toNatClampNeg f.toNatClampNeg t.toNatClampNeg))) (false, s)
def brS (s : St) (l q : Int32) : Bool × St := cond (isc (nI 24) q) (rsS s l q (q + 1)) (false, s)
def seS (s : St) (c b : Int32) : Bool × St := match plS s c with
  | none => (false, s)
  | some k => cond (isc (nI (s_lkr s)) b && (s_seen s).isNone && !(decide (s_ld s b.toNatClampNeg k = 0)) && !(decide (s_cn s 0 k = 0))) (true, zeroP (w_seen s (some (s_num s k)))) (false, s)
def lrS (s : St) (a b : Int64) (q : Int32) : Int32 × St := if s_lkr s = 4 ∨ 0 < s_lks s ∨ a < 1 ∨ 1000 < a ∨ b < 1 ∨ 1000 < b ∨ 1000 < a * b ∨ q < 1 ∨ 24 < q then (-1, s) else (nI (s_lkr s), zeroP (w_lkr (w_hr (w_rt s (va_up (s_rt s) (s_lkr s) (LN a * LN b))) (va_up (s_hr s) (s_lkr s) q.toNatClampNeg)) (s_lkr s + 1)))
def ldU (s : St) (l k x : Nat) : Nat → Nat → Nat := fun l1 k1 => if l1 = l ∧ k1 = k then s_ld s l1 k1 + x else s_ld s l1 k1
def lkT (s : St) (l k q t : Nat) : St := (s_cells s, s_told s, s_num s, s_ar s, s_cn s, s_things s, s_lkr s, s_rt s, s_hr s, s_bd s, s_pl s, ldU s l k q, s_lks s + 1, va_up (s_gl s) (s_lks s) l, va_up (s_gc s) (s_lks s) (s_num s k), va_up (s_gh s) (s_lks s) q, va_up (s_gt s) (s_lks s) t, s_seen s, s_ab s, s_bl s)
def lkS (s : St) (l c : Int32) (q t : Int64) : Int32 × St := match plS s c with
  | none => (-1, s)
  | some k => if isc (nI (s_lkr s)) l = false ∨ s_seen s ≠ none ∨ s_lks s = 200 ∨ q < 1 ∨ 100 < q ∨ t < 0 then (-1, s) else
    (nI (s_lks s), lkT s l.toNatClampNeg k (LN q) (LN t))
theorem lN1 : (1 : Int64) = lN 1 := by decide +kernel
theorem lN0 : (0 : Int64) = lN 0 := by decide +kernel
theorem lN1000 : (1000 : Int64) = lN 1000 := by decide +kernel
theorem lN100 : (100 : Int64) = lN 100 := by decide +kernel
theorem n24 : (24 : Int32) = nI 24 := by decide +kernel
theorem c_R_thing {g : Gx} {h : Hp} {m d : Nat} {s : St} {Q : Option Value → Hp → Prop} (P : PR g h m s) (I : Inv s) (hQ : ∀ h1, hp_fr (inR m) h h1 → PR g h1 m (thS s).2 → Q (some (.int ((thS s).1))) h1) : Ct g M_R_thing (d + 1) 0 0 [.ref m] h Q := by
  have S := pr_S P
  have bT := v_told I
  have bL := v_lkr I
  refine ct_of ok_R_thing (by decide) (Nat.le_of_ble_eq_true rfl) [some (.ref m)] rfl rfl ?_
  have bt := v_things I
  unfold thS at hQ
  refine k_aload_n rfl rfl ?_
  refine k_gI rfl rfl (sr_o S) (pr_things P) ?_
  refine k_iconst (v := nI 4) rfl (by decide) ?_
  refine kn_ne rfl (by omega) (by omega) (fun c5 => ?_) (fun c5 => ?_)
  · rw [if_neg c5] at hQ
    refine k_aload_n rfl rfl ?_
    refine k_dup rfl rfl ?_
    refine k_gI rfl rfl (sr_o S) (pr_things P) ?_
    refine k_iconst (v := nI 1) rfl (by decide) ?_
    refine k_iaddN rfl ?_
    refine k_putI rfl rfl rfl (sr_o S) ?_
    have P1 : PR g (hp_ui h m 5 (nI (s_things s + 1))) m (w_things s (s_things s + 1)) := ⟨S, ((by simp only [i_ui, j_ui, i_uj, j_uj]; (repeat rw [if_neg (by omega)]); exact pr_cells (s := s) P)), ((by simp only [i_ui, j_ui, i_uj, j_uj]; (repeat rw [if_neg (by omega)]); exact pr_told (s := s) P)), (fun k z => (by simp only [i_ui, j_ui, i_uj, j_uj]; (repeat rw [if_neg (by omega)]); exact pr_num (s := s) P k z)), (fun k z => (by simp only [i_ui, j_ui, i_uj, j_uj]; (repeat rw [if_neg (by omega)]); exact pr_ar (s := s) P k z)), (fun t k z y => (by simp only [i_ui, j_ui, i_uj, j_uj]; (repeat rw [if_neg (by omega)]); exact pr_cn (s := s) P t k z y)), (by rw [i_ui, if_pos ⟨rfl, rfl⟩]; rfl), ((by simp only [i_ui, j_ui, i_uj, j_uj]; (repeat rw [if_neg (by omega)]); exact pr_lkr (s := s) P)), (fun k z => (by simp only [i_ui, j_ui, i_uj, j_uj]; (repeat rw [if_neg (by omega)]); exact pr_rt (s := s) P k z)), (fun k z => (by simp only [i_ui, j_ui, i_uj, j_uj]; (repeat rw [if_neg (by omega)]); exact pr_hr (s := s) P k z)), (fun t k z y => (by simp only [i_ui, j_ui, i_uj, j_uj]; (repeat rw [if_neg (by omega)]); exact pr_bd (s := s) P t k z y)), (fun t k z y => (by simp only [i_ui, j_ui, i_uj, j_uj]; (repeat rw [if_neg (by omega)]); exact pr_pl (s := s) P t k z y)), (fun t k z y => (by simp only [i_ui, j_ui, i_uj, j_uj]; (repeat rw [if_neg (by omega)]); exact pr_ld (s := s) P t k z y)), ((by simp only [i_ui, j_ui, i_uj, j_uj]; (repeat rw [if_neg (by omega)]); exact pr_lks (s := s) P)), (fun k z => (by simp only [i_ui, j_ui, i_uj, j_uj]; (repeat rw [if_neg (by omega)]); exact pr_gl (s := s) P k z)), (fun k z => (by simp only [i_ui, j_ui, i_uj, j_uj]; (repeat rw [if_neg (by omega)]); exact pr_gc (s := s) P k z)), (fun k z => (by simp only [i_ui, j_ui, i_uj, j_uj]; (repeat rw [if_neg (by omega)]); exact pr_gh (s := s) P k z)), (fun k z => (by simp only [i_ui, j_ui, i_uj, j_uj]; (repeat rw [if_neg (by omega)]); exact pr_gt (s := s) P k z)), ((by simp only [i_ui, j_ui, i_uj, j_uj]; (repeat rw [if_neg (by omega)]); exact pr_seen (s := s) P)), ((by simp only [i_ui, j_ui, i_uj, j_uj]; (repeat rw [if_neg (by omega)]); exact pr_ab (s := s) P)), ((by simp only [i_ui, j_ui, i_uj, j_uj]; (repeat rw [if_neg (by omega)]); exact pr_bl (s := s) P))⟩
    have x1 : hp_fr (inR m) h (hp_ui h m 5 (nI (s_things s + 1))) := fr_ui ⟨by omega, by omega⟩
    refine k_aload_n rfl rfl ?_
    refine k_cV0 rfl cw_R_changed wd_467 (sr_o S) rfl (by decide) (Nat.le_of_ble_eq_true rfl) ?_
    refine c_R_changed P1 (fun h2 x2 P2 => ?_)
    refine k_aload_n rfl rfl ?_
    refine k_gI (x := nI (s_things s + 1)) rfl rfl (sr_o (pr_S P2)) (pr_things P2) ?_
    refine k_iconst (v := nI 1) rfl (by decide) ?_
    refine k_isubN rfl (by omega) ?_
    refine k_iret rfl rfl (Nat.le_refl _) (Nat.le_refl _) ?_
    exact hQ h2 (fr_tr x1 x2) P2
  · rw [if_pos c5] at hQ
    refine k_iconst (v := -1) rfl (by decide) ?_
    refine k_iret rfl rfl (Nat.le_refl _) (Nat.le_refl _) ?_
    exact hQ h fr_rf P
theorem c_R_stop {g : Gx} {h : Hp} {m d : Nat} {s : St} {Q : Option Value → Hp → Prop} (P : PR g h m s) (I : Inv s) (a b : Int64) (hQ : ∀ h1, hp_fr (inR m) h h1 → PR g h1 m (spS s a b).2 → Q (some (.int (bI (spS s a b).1))) h1) : Ct g M_R_stop (d + 1) 0 0 [.ref m, .long a, .long b] h Q := by
  have S := pr_S P
  have bT := v_told I
  have bL := v_lkr I
  refine ct_of ok_R_stop (by decide) (Nat.le_of_ble_eq_true rfl) [some (.ref m), some (.long a), none, some (.long b), none] rfl rfl ?_
  unfold spS at hQ
  refine k_lload_n rfl rfl ?_
  refine k_lconst (v := 0) rfl (by decide) ?_
  refine kl_lt rfl rfl (fun c2 => ?_) (fun c2 => ?_)
  · refine k_iconst (v := nI 0) rfl (by decide) ?_
    refine k_zret rfl rfl (by decide) (Nat.le_refl _) (Nat.le_refl _) ?_
    rw [if_pos (Or.inl c2)] at hQ; exact hQ h fr_rf P
  · refine k_lload_n rfl rfl ?_
    refine k_lload_n rfl rfl ?_
    refine kl_gt rfl rfl (fun c8 => ?_) (fun c8 => ?_)
    · refine k_iconst (v := nI 0) rfl (by decide) ?_
      refine k_zret rfl rfl (by decide) (Nat.le_refl _) (Nat.le_refl _) ?_
      rw [if_pos (Or.inr (Or.inl c8))] at hQ; exact hQ h fr_rf P
    · refine k_lload_n rfl rfl ?_
      refine k_lconst (v := 1) rfl (by decide) ?_
      refine kl_lt rfl rfl (fun c14 => ?_) (fun c14 => ?_)
      · refine k_iconst (v := nI 0) rfl (by decide) ?_
        refine k_zret rfl rfl (by decide) (Nat.le_refl _) (Nat.le_refl _) ?_
        rw [if_pos (Or.inr (Or.inr (Or.inl c14)))] at hQ; exact hQ h fr_rf P
      · refine k_lload_n rfl rfl ?_
        refine k_ldc2 rfl wd_502 ?_
        refine kl_le rfl rfl (fun c22 => ?_) (fun c22 => ?_)
        · refine k_aload_n rfl rfl ?_
          refine k_lload_n rfl rfl ?_
          refine k_putL rfl rfl rfl (sr_o S) ?_
          refine k_aload_n rfl rfl ?_
          refine k_lload_n rfl rfl ?_
          refine k_putL rfl rfl rfl (sr_o S) ?_
          have P1 : PR g (hp_uj (hp_uj h m 19 a) m 20 b) m (w_bl (w_ab s (LN a)) (LN b)) := ⟨S, ((by simp only [i_ui, j_ui, i_uj, j_uj]; (repeat rw [if_neg (by omega)]); exact pr_cells (s := s) P)), ((by simp only [i_ui, j_ui, i_uj, j_uj]; (repeat rw [if_neg (by omega)]); exact pr_told (s := s) P)), (fun k z => (by simp only [i_ui, j_ui, i_uj, j_uj]; (repeat rw [if_neg (by omega)]); exact pr_num (s := s) P k z)), (fun k z => (by simp only [i_ui, j_ui, i_uj, j_uj]; (repeat rw [if_neg (by omega)]); exact pr_ar (s := s) P k z)), (fun t k z y => (by simp only [i_ui, j_ui, i_uj, j_uj]; (repeat rw [if_neg (by omega)]); exact pr_cn (s := s) P t k z y)), ((by simp only [i_ui, j_ui, i_uj, j_uj]; (repeat rw [if_neg (by omega)]); exact pr_things (s := s) P)), ((by simp only [i_ui, j_ui, i_uj, j_uj]; (repeat rw [if_neg (by omega)]); exact pr_lkr (s := s) P)), (fun k z => (by simp only [i_ui, j_ui, i_uj, j_uj]; (repeat rw [if_neg (by omega)]); exact pr_rt (s := s) P k z)), (fun k z => (by simp only [i_ui, j_ui, i_uj, j_uj]; (repeat rw [if_neg (by omega)]); exact pr_hr (s := s) P k z)), (fun t k z y => (by simp only [i_ui, j_ui, i_uj, j_uj]; (repeat rw [if_neg (by omega)]); exact pr_bd (s := s) P t k z y)), (fun t k z y => (by simp only [i_ui, j_ui, i_uj, j_uj]; (repeat rw [if_neg (by omega)]); exact pr_pl (s := s) P t k z y)), (fun t k z y => (by simp only [i_ui, j_ui, i_uj, j_uj]; (repeat rw [if_neg (by omega)]); exact pr_ld (s := s) P t k z y)), ((by simp only [i_ui, j_ui, i_uj, j_uj]; (repeat rw [if_neg (by omega)]); exact pr_lks (s := s) P)), (fun k z => (by simp only [i_ui, j_ui, i_uj, j_uj]; (repeat rw [if_neg (by omega)]); exact pr_gl (s := s) P k z)), (fun k z => (by simp only [i_ui, j_ui, i_uj, j_uj]; (repeat rw [if_neg (by omega)]); exact pr_gc (s := s) P k z)), (fun k z => (by simp only [i_ui, j_ui, i_uj, j_uj]; (repeat rw [if_neg (by omega)]); exact pr_gh (s := s) P k z)), (fun k z => (by simp only [i_ui, j_ui, i_uj, j_uj]; (repeat rw [if_neg (by omega)]); exact pr_gt (s := s) P k z)), ((by simp only [i_ui, j_ui, i_uj, j_uj]; (repeat rw [if_neg (by omega)]); exact pr_seen (s := s) P)), (by rw [j_uj, if_neg (by omega), j_uj, if_pos ⟨rfl, rfl⟩]; exact (LN_of c2).1), (by rw [j_uj, if_pos ⟨rfl, rfl⟩]; exact (LN_of (fun z => c14 (Int64.lt_trans z (by decide)))).1)⟩
          have x1 : hp_fr (inR m) h (hp_uj (hp_uj h m 19 a) m 20 b) := fr_tr (fr_uj ⟨by omega, by omega⟩) (fr_uj ⟨by omega, by omega⟩)
          refine k_aload_n rfl rfl ?_
          refine k_cV0 rfl cw_R_changed wd_467 (sr_o S) rfl (by decide) (Nat.le_of_ble_eq_true rfl) ?_
          refine c_R_changed P1 (fun h2 x2 P2 => ?_)
          refine k_iconst (v := nI 1) rfl (by decide) ?_
          refine k_zret rfl rfl (by decide) (Nat.le_refl _) (Nat.le_refl _) ?_
          rw [if_neg (fun z => z.elim c2 (fun z => z.elim c8 (fun z => z.elim c14 (fun z => absurd c22 (Int64.not_le.mpr z)))))] at hQ
          exact hQ h2 (fr_tr x1 x2) P2
        · refine k_iconst (v := nI 0) rfl (by decide) ?_
          refine k_zret rfl rfl (by decide) (Nat.le_refl _) (Nat.le_refl _) ?_
          rw [if_pos (Or.inr (Or.inr (Or.inr (Int64.not_le.mp c22))))] at hQ; exact hQ h fr_rf P
theorem c_R_rest {g : Gx} {h : Hp} {m d : Nat} {s : St} {Q : Option Value → Hp → Prop} (P : PR g h m s) (I : Inv s) (l f t : Int32) (hQ : ∀ h1, hp_fr (inR m) h h1 → PR g h1 m (rsS s l f t).2 → Q (some (.int (bI (rsS s l f t).1))) h1) : Ct g M_R_rest (d + 1) 0 0 [.ref m, .int l, .int f, .int t] h Q := by
  have S := pr_S P
  have bT := v_told I
  have bL := v_lkr I
  refine ct_of ok_R_rest (by decide) (Nat.le_of_ble_eq_true rfl) [some (.ref m), some (.int l), some (.int f), some (.int t), none] rfl rfl ?_
  unfold rsS at hQ
  refine k_aload_n rfl rfl ?_
  refine k_iload_n rfl rfl ?_
  refine k_cV1 rfl cw_R_isLooker wd_484 (sr_o S) rfl (by decide) (Nat.le_of_ble_eq_true rfl) ?_
  refine c_R_isLooker P I l ?_
  refine kb_eq rfl (fun c5 => ?_) (fun c5 => ?_)
  · refine k_iconst (v := nI 0) rfl (by decide) ?_
    refine k_zret rfl rfl (by decide) (Nat.le_refl _) (Nat.le_refl _) ?_
    rw [c5] at hQ; exact hQ h fr_rf P
  · refine k_iload_n rfl rfl ?_
    refine k_if_lt rfl (fun c9 => ?_) (fun c9 => ?_)
    · refine k_iconst (v := nI 0) rfl (by decide) ?_
      refine k_zret rfl rfl (by decide) (Nat.le_refl _) (Nat.le_refl _) ?_
      rw [decide_eq_false (Int32.not_le.mpr c9), Bool.and_false] at hQ; exact hQ h fr_rf P
    · refine k_iload_n rfl rfl ?_
      refine k_iload_n rfl rfl ?_
      refine k_icmp_ge rfl (fun c14 => ?_) (fun c14 => ?_)
      · refine k_iconst (v := nI 0) rfl (by decide) ?_
        refine k_zret rfl rfl (by decide) (Nat.le_refl _) (Nat.le_refl _) ?_
        rw [decide_eq_false (Int32.not_lt.mpr c14), Bool.and_false] at hQ; exact hQ h fr_rf P
      · have c14' : f < t := Int32.not_le.mp c14
        refine k_iload_n rfl rfl ?_
        refine k_bipush (v := nI 24) rfl (by decide) ?_
        refine k_icmp_le rfl (fun c20 => ?_) (fun c20 => ?_)
        · refine k_iload_n rfl rfl ?_
          refine k_ist4 rfl rfl ?_
          obtain ⟨l0, hl0, el, ecl⟩ := isc_of (by omega) c5
          obtain ⟨f0, hf0, ef⟩ := nI_of c9
          obtain ⟨t0, ht0, et⟩ := nI_of (x := t) (fun z => c9 (Int32.lt_trans c14' z))
          subst el ef et
          have ft : f0 < t0 := (nI_ltI hf0 ht0).mp c14'
          have t24 : t0 ≤ 24 := (nI_leI ht0 (by decide)).mp c20
          rw [c5, decide_eq_true (Int32.not_lt.mp c9), decide_eq_true c14', decide_eq_true c20, ecl, nI_clamp hf0, nI_clamp ht0] at hQ
          simp only [Bool.and_self, cond_true] at hQ
          suffices H : ∀ (q i : Nat) (h1 : Hp), i + q = t0 → f0 ≤ i → hp_fr (fun a => a = m + 6) h h1 → hp_r h1 = hp_r h → (∀ j, hp_i h1 (m + 6) j = if 24 * l0 + f0 ≤ j ∧ j < 24 * l0 + i then 1 else hp_i h (m + 6) j) → Om g M_R_rest (d + 1) Q h1 28 [some (.ref m), some (.int (nI l0)), some (.int (nI f0)), some (.int (nI t0)), some (.int (nI i))] [] from H (t0 - f0) f0 h (by omega) (Nat.le_refl _) fr_rf rfl (fun j => by rw [if_neg (by omega)])
          intro q
          induction q with
          | zero =>
            intro i h1 hi hfi hF hr hz
            have ei : i = t0 := by omega
            subst ei
            have S1 := sr_fr S hF (by rw [hr])
            have hi' : ∀ a, a ≠ m + 6 → ∀ j, hp_i h1 a j = hp_i h a j := fun a ha j => fr_i hF ha j
            have hj' : ∀ a, a ≠ m + 6 → ∀ j, hp_j h1 a j = hp_j h a j := fun a ha j => fr_j hF ha j
            have P1 : PR g h1 m (w_bd s (bdU s l0 f0 i)) := ⟨S1, ((hi' _ (by omega) _).trans (pr_cells (s := s) P)), ((hi' _ (by omega) _).trans (pr_told (s := s) P)), (fun k z => (hi' _ (by omega) _).trans (pr_num (s := s) P k z)), (fun k z => (hi' _ (by omega) _).trans (pr_ar (s := s) P k z)), (fun t k z y => (hi' _ (by omega) _).trans (pr_cn (s := s) P t k z y)), ((hi' _ (by omega) _).trans (pr_things (s := s) P)), ((hi' _ (by omega) _).trans (pr_lkr (s := s) P)), (fun k z => (hi' _ (by omega) _).trans (pr_rt (s := s) P k z)), (fun k z => (hi' _ (by omega) _).trans (pr_hr (s := s) P k z)), (fun l1 q z y => by
              rw [hz]
              show _ = bI (s_bd s l1 q || (decide (l1 = l0) && decide (f0 ≤ q) && decide (q < i)))
              by_cases e : l1 = l0 ∧ f0 ≤ q ∧ q < i
              · rw [if_pos (by omega), decide_eq_true e.1, decide_eq_true e.2.1, decide_eq_true e.2.2]
                simp only [Bool.and_self, Bool.or_true]; rfl
              · rw [if_neg (by omega), pr_bd P l1 q z y]
                have e2 : (decide (l1 = l0) && decide (f0 ≤ q) && decide (q < i)) = false := by
                  simp only [Bool.and_eq_false_iff, decide_eq_false_iff_not]; omega
                rw [e2, Bool.or_false]), (fun t k z y => (hi' _ (by omega) _).trans (pr_pl (s := s) P t k z y)), (fun t k z y => (hi' _ (by omega) _).trans (pr_ld (s := s) P t k z y)), ((hi' _ (by omega) _).trans (pr_lks (s := s) P)), (fun k z => (hi' _ (by omega) _).trans (pr_gl (s := s) P k z)), (fun k z => (hi' _ (by omega) _).trans (pr_gc (s := s) P k z)), (fun k z => (hi' _ (by omega) _).trans (pr_gh (s := s) P k z)), (fun k z => (hj' _ (by omega) _).trans (pr_gt (s := s) P k z)), ((hi' _ (by omega) _).trans (pr_seen (s := s) P)), ((hj' _ (by omega) _).trans (pr_ab (s := s) P)), ((hj' _ (by omega) _).trans (pr_bl (s := s) P))⟩
            have x1 : hp_fr (inR m) h h1 := fr_mono hF (fun a e => ⟨by omega, by omega⟩)
            refine k_iload rfl rfl ?_
            refine k_iload_n rfl rfl ?_
            refine kn_ge rfl (by omega) (by omega) (fun c31 => ?_) (fun c31 => ?_)
            · refine k_aload_n rfl rfl ?_
              refine k_cV0 rfl cw_R_changed wd_467 (sr_o S1) rfl (by decide) (Nat.le_of_ble_eq_true rfl) ?_
              refine c_R_changed P1 (fun h2 x2 P2 => ?_)
              refine k_iconst (v := nI 1) rfl (by decide) ?_
              refine k_zret rfl rfl (by decide) (Nat.le_refl _) (Nat.le_refl _) ?_
              exact hQ h2 (fr_tr x1 x2) P2
            · exact absurd c31 (by omega)
          | succ q ih =>
            intro i h1 hi hfi hF hr hz
            have S1 := sr_fr S hF (by rw [hr])
            refine k_iload rfl rfl ?_
            refine k_iload_n rfl rfl ?_
            refine kn_ge rfl (by omega) (by omega) (fun c31 => ?_) (fun c31 => ?_)
            · exact absurd c31 (by omega)
            · refine k_aload_n rfl rfl ?_
              refine k_getR rfl rfl (sr_o S1) (sr_barred S1) ?_
              refine k_bipush (v := nI 24) rfl (by decide) ?_
              refine k_iload_n rfl rfl ?_
              refine k_imul rfl ?_
              refine k_iload rfl rfl ?_
              refine k_iadd rfl ?_
              refine k_iconst (v := nI 1) rfl (by decide) ?_
              refine k_zS rfl (sr_a6 S1) (ix24 l0 i) (by omega) (by decide) (by decide) ?_
              refine k_incN4 rfl rfl ?_
              refine k_goto rfl ?_
              refine ih (i + 1) _ (by omega) (by omega) (fr_tr hF (fr_ui rfl)) hr (fun j => ?_)
              rw [i_ui]
              by_cases e : j = 24 * l0 + i
              · rw [if_pos ⟨rfl, e⟩, if_pos (by omega)]; rfl
              · rw [if_neg (fun z => e z.2), hz]
                by_cases e3 : 24 * l0 + f0 ≤ j ∧ j < 24 * l0 + i
                · rw [if_pos e3, if_pos (by omega)]
                · rw [if_neg e3, if_neg (by omega)]
        · refine k_iconst (v := nI 0) rfl (by decide) ?_
          refine k_zret rfl rfl (by decide) (Nat.le_refl _) (Nat.le_refl _) ?_
          rw [decide_eq_false c20, Bool.and_false] at hQ; exact hQ h fr_rf P
theorem c_R_bar {g : Gx} {h : Hp} {m d : Nat} {s : St} {Q : Option Value → Hp → Prop} (P : PR g h m s) (I : Inv s) (l q : Int32) (hQ : ∀ h1, hp_fr (inR m) h h1 → PR g h1 m (brS s l q).2 → Q (some (.int (bI (brS s l q).1))) h1) : Ct g M_R_bar (d + 2) 0 0 [.ref m, .int l, .int q] h Q := by
  have S := pr_S P
  have bT := v_told I
  have bL := v_lkr I
  refine ct_of ok_R_bar (by decide) (Nat.le_of_ble_eq_true rfl) [some (.ref m), some (.int l), some (.int q)] rfl rfl ?_
  unfold brS at hQ
  refine k_iload_n rfl rfl ?_
  refine k_if_lt rfl (fun c1 => ?_) (fun c1 => ?_)
  · refine k_iconst (v := nI 0) rfl (by decide) ?_
    refine k_zret rfl rfl (by decide) (Nat.le_refl _) (Nat.le_refl _) ?_
    rw [isc_f1 c1] at hQ; exact hQ h fr_rf P
  · refine k_iload_n rfl rfl ?_
    refine k_bipush (v := nI 24) rfl (by decide) ?_
    refine k_icmp_ge rfl (fun c7 => ?_) (fun c7 => ?_)
    · refine k_iconst (v := nI 0) rfl (by decide) ?_
      refine k_zret rfl rfl (by decide) (Nat.le_refl _) (Nat.le_refl _) ?_
      rw [isc_f2 (Int32.not_lt.mpr c7)] at hQ; exact hQ h fr_rf P
    · refine k_aload_n rfl rfl ?_
      refine k_iload_n rfl rfl ?_
      refine k_iload_n rfl rfl ?_
      refine k_iload_n rfl rfl ?_
      refine k_iconst (v := 1) rfl (by decide) ?_
      refine k_iadd rfl ?_
      rw [isc_t c1 (Int32.not_le.mp c7)] at hQ
      simp only [cond_true] at hQ
      refine k_cV3 rfl cw_R_rest wd_480 (sr_o S) rfl (by decide) (Nat.le_of_ble_eq_true rfl) ?_
      refine c_R_rest P I l q (q + 1) (fun h2 x2 P2 => ?_)
      refine kb_eq rfl (fun c19 => ?_) (fun c19 => ?_)
      · refine k_iconst (v := nI 0) rfl (by decide) ?_
        refine k_zret rfl rfl (by decide) (Nat.le_refl _) (Nat.le_refl _) ?_
        have h9 := hQ h2 x2 P2
        rw [c19] at h9
        exact h9
      · refine k_iconst (v := nI 1) rfl (by decide) ?_
        refine k_goto rfl ?_
        refine k_zret rfl rfl (by decide) (Nat.le_refl _) (Nat.le_refl _) ?_
        have h9 := hQ h2 x2 P2
        rw [c19] at h9
        exact h9
end
section
theorem nI_0lt {x : Nat} (h : x < 2 ^ 31) : 0 < nI x ↔ 0 < x := nI_ltI (a := 0) (by decide) h
theorem nI_is0 {x : Nat} (h : x < 2 ^ 31) : nI x = 0 ↔ x = 0 := nI_eq (b := 0) h (by decide)
theorem plS_c {s : St} {c : Int32} {k : Nat} (h : plS s c = some k) : c = nI (s_num s k) := ((plc_some _ _ _ h).2.2).symm
theorem c_R_seen {g : Gx} {h : Hp} {m d : Nat} {s : St} {Q : Option Value → Hp → Prop} (P : PR g h m s) (I : Inv s) (c b : Int32) (hQ : ∀ h1, hp_fr (inR m) h h1 → PR g h1 m (seS s c b).2 → Q (some (.int (bI (seS s c b).1))) h1) : Ct g M_R_seen (d + 1) 0 0 [.ref m, .int c, .int b] h Q := by
  have S := pr_S P
  have bT := v_told I
  have bL := v_lkr I
  refine ct_of ok_R_seen (by decide) (Nat.le_of_ble_eq_true rfl) [some (.ref m), some (.int c), some (.int b)] rfl rfl ?_
  have bK := v_lks I
  have hcb := v_cells I
  unfold seS at hQ
  cases hp : plS s c with
  | none =>
    rw [hp] at hQ
    refine k_aload_n rfl rfl ?_
    refine k_iload_n rfl rfl ?_
    refine k_cV1 rfl cw_R_isCell wd_450 (sr_o S) rfl (by decide) (Nat.le_of_ble_eq_true rfl) ?_
    refine c_R_isCell P I c ?_
    refine kb_eq rfl (fun c5 => ?_) (fun c5 => ?_)
    · refine k_iconst (v := nI 0) rfl (by decide) ?_
      refine k_zret rfl rfl (by decide) (Nat.le_refl _) (Nat.le_refl _) ?_
      exact hQ h fr_rf P
    · refine k_aload_n rfl rfl ?_
      refine k_iload_n rfl rfl ?_
      refine k_cV1 rfl cw_R_isLooker wd_484 (sr_o S) rfl (by decide) (Nat.le_of_ble_eq_true rfl) ?_
      refine c_R_isLooker P I b ?_
      refine kb_eq rfl (fun c13 => ?_) (fun c13 => ?_)
      · refine k_iconst (v := nI 0) rfl (by decide) ?_
        refine k_zret rfl rfl (by decide) (Nat.le_refl _) (Nat.le_refl _) ?_
        exact hQ h fr_rf P
      · refine k_aload_n rfl rfl ?_
        refine k_iload_n rfl rfl ?_
        refine k_cV1 rfl cw_R_place wd_455 (sr_o S) rfl (by decide) (Nat.le_of_ble_eq_true rfl) ?_
        refine c_R_place P I c ?_
        rw [hp]
        refine k_iconst (v := -1) rfl (by decide) ?_
        refine k_icmp_eq rfl (fun c22 => ?_) (fun c22 => ?_)
        · refine k_iconst (v := nI 0) rfl (by decide) ?_
          refine k_zret rfl rfl (by decide) (Nat.le_refl _) (Nat.le_refl _) ?_
          exact hQ h fr_rf P
        · exact absurd rfl c22
  | some k =>
    have hk := plS_lt hp
    have hnb := v_num I k hk
    have hc := v_cn I 0 k (by decide) hk
    rw [hp] at hQ
    simp only at hQ
    refine k_aload_n rfl rfl ?_
    refine k_iload_n rfl rfl ?_
    refine k_cV1 rfl cw_R_isCell wd_450 (sr_o S) rfl (by decide) (Nat.le_of_ble_eq_true rfl) ?_
    refine c_R_isCell P I c ?_
    refine kb_eq rfl (fun c5 => ?_) (fun c5 => ?_)
    · exact absurd (pl_isc I hp) (by rw [c5]; decide)
    · refine k_aload_n rfl rfl ?_
      refine k_iload_n rfl rfl ?_
      refine k_cV1 rfl cw_R_isLooker wd_484 (sr_o S) rfl (by decide) (Nat.le_of_ble_eq_true rfl) ?_
      refine c_R_isLooker P I b ?_
      refine kb_eq rfl (fun c13 => ?_) (fun c13 => ?_)
      · rw [c13] at hQ
        refine k_iconst (v := nI 0) rfl (by decide) ?_
        refine k_zret rfl rfl (by decide) (Nat.le_refl _) (Nat.le_refl _) ?_
        exact hQ h fr_rf P
      · obtain ⟨b0, hb0, eb, ebl⟩ := isc_of (by omega) c13
        have hlb := v_ld I b0 k (by omega) hk
        rw [c13, ebl] at hQ
        refine k_aload_n rfl rfl ?_
        refine k_iload_n rfl rfl ?_
        refine k_cV1 rfl cw_R_place wd_455 (sr_o S) rfl (by decide) (Nat.le_of_ble_eq_true rfl) ?_
        refine c_R_place P I c ?_
        rw [hp]
        refine k_iconst (v := -1) rfl (by decide) ?_
        refine k_icmp_eq rfl (fun c22 => ?_) (fun c22 => ?_)
        · exact absurd c22 (nI_m1 (by omega))
        · refine k_aload_n rfl rfl ?_
          refine k_gI rfl rfl (sr_o S) (pr_seen P) ?_
          refine k_iconst (v := -1) rfl (by decide) ?_
          refine k_icmp_ne rfl (fun c30 => ?_) (fun c30 => ?_)
          · have hse : (s_seen s).isNone = false := by
              cases hs : s_seen s with
              | none => rw [hs] at c30; exact absurd rfl c30
              | some q => rfl
            rw [hse] at hQ
            refine k_iconst (v := nI 0) rfl (by decide) ?_
            refine k_zret rfl rfl (by decide) (Nat.le_refl _) (Nat.le_refl _) ?_
            exact hQ h fr_rf P
          · have hse : (s_seen s).isNone = true := by
              cases hs : s_seen s with
              | none => rfl
              | some q => rw [hs] at c30; exact absurd c30 (nI_m1 (by have := v_seen I q hs; omega))
            rw [hse] at hQ
            refine k_aload_n rfl rfl ?_
            refine k_getR rfl rfl (sr_o S) (sr_looked S) ?_
            refine k_bipush (v := nI 40) rfl (by decide) ?_
            refine k_iload_n rfl rfl ?_
            refine k_imul rfl ?_
            refine k_aload_n rfl rfl ?_
            refine k_iload_n rfl rfl ?_
            refine k_cV1 rfl cw_R_place wd_455 (sr_o S) rfl (by decide) (Nat.le_of_ble_eq_true rfl) ?_
            refine c_R_place P I c ?_
            rw [hp]
            refine k_iadd rfl ?_
            refine k_iA rfl (sr_a9 S) (j := 40 * b0 + k) (by rw [eb]; exact ix40 b0 k) (by omega) (by decide) (pr_ld P b0 k (by omega) hk) ?_
            refine k_if_eq rfl (fun c48 => ?_) (fun c48 => ?_)
            · have e48 := (nI_is0 (by omega)).mp c48
              rw [decide_eq_true e48] at hQ
              refine k_iconst (v := nI 0) rfl (by decide) ?_
              refine k_zret rfl rfl (by decide) (Nat.le_refl _) (Nat.le_refl _) ?_
              exact hQ h fr_rf P
            · have e48 : ¬ s_ld s b0 k = 0 := fun z => c48 ((nI_is0 (by omega)).mpr z)
              rw [decide_eq_false e48] at hQ
              refine k_aload_n rfl rfl ?_
              refine k_getR rfl rfl (sr_o S) (sr_count S) ?_
              refine k_aload_n rfl rfl ?_
              refine k_iload_n rfl rfl ?_
              refine k_cV1 rfl cw_R_place wd_455 (sr_o S) rfl (by decide) (Nat.le_of_ble_eq_true rfl) ?_
              refine c_R_place P I c ?_
              rw [hp]
              refine k_iA rfl (sr_a3 S) (c0_ix k) (by omega) (by decide) (pr_cn P 0 k (by decide) hk) ?_
              refine k_if_ne rfl (fun c61 => ?_) (fun c61 => ?_)
              · have e61 : ¬ s_cn s 0 k = 0 := fun z => c61 ((nI_is0 (by omega)).mpr z)
                rw [decide_eq_false e61] at hQ
                refine k_aload_n rfl rfl ?_
                refine k_iload_n rfl rfl ?_
                refine k_putI rfl rfl rfl (sr_o S) ?_
                have P1 : PR g (hp_ui h m 18 c) m (w_seen s (some (s_num s k))) := ⟨S, ((by simp only [i_ui, j_ui, i_uj, j_uj]; (repeat rw [if_neg (by omega)]); exact pr_cells (s := s) P)), ((by simp only [i_ui, j_ui, i_uj, j_uj]; (repeat rw [if_neg (by omega)]); exact pr_told (s := s) P)), (fun k z => (by simp only [i_ui, j_ui, i_uj, j_uj]; (repeat rw [if_neg (by omega)]); exact pr_num (s := s) P k z)), (fun k z => (by simp only [i_ui, j_ui, i_uj, j_uj]; (repeat rw [if_neg (by omega)]); exact pr_ar (s := s) P k z)), (fun t k z y => (by simp only [i_ui, j_ui, i_uj, j_uj]; (repeat rw [if_neg (by omega)]); exact pr_cn (s := s) P t k z y)), ((by simp only [i_ui, j_ui, i_uj, j_uj]; (repeat rw [if_neg (by omega)]); exact pr_things (s := s) P)), ((by simp only [i_ui, j_ui, i_uj, j_uj]; (repeat rw [if_neg (by omega)]); exact pr_lkr (s := s) P)), (fun k z => (by simp only [i_ui, j_ui, i_uj, j_uj]; (repeat rw [if_neg (by omega)]); exact pr_rt (s := s) P k z)), (fun k z => (by simp only [i_ui, j_ui, i_uj, j_uj]; (repeat rw [if_neg (by omega)]); exact pr_hr (s := s) P k z)), (fun t k z y => (by simp only [i_ui, j_ui, i_uj, j_uj]; (repeat rw [if_neg (by omega)]); exact pr_bd (s := s) P t k z y)), (fun t k z y => (by simp only [i_ui, j_ui, i_uj, j_uj]; (repeat rw [if_neg (by omega)]); exact pr_pl (s := s) P t k z y)), (fun t k z y => (by simp only [i_ui, j_ui, i_uj, j_uj]; (repeat rw [if_neg (by omega)]); exact pr_ld (s := s) P t k z y)), ((by simp only [i_ui, j_ui, i_uj, j_uj]; (repeat rw [if_neg (by omega)]); exact pr_lks (s := s) P)), (fun k z => (by simp only [i_ui, j_ui, i_uj, j_uj]; (repeat rw [if_neg (by omega)]); exact pr_gl (s := s) P k z)), (fun k z => (by simp only [i_ui, j_ui, i_uj, j_uj]; (repeat rw [if_neg (by omega)]); exact pr_gc (s := s) P k z)), (fun k z => (by simp only [i_ui, j_ui, i_uj, j_uj]; (repeat rw [if_neg (by omega)]); exact pr_gh (s := s) P k z)), (fun k z => (by simp only [i_ui, j_ui, i_uj, j_uj]; (repeat rw [if_neg (by omega)]); exact pr_gt (s := s) P k z)), (by rw [i_ui, if_pos ⟨rfl, rfl⟩]; exact plS_c hp), ((by simp only [i_ui, j_ui, i_uj, j_uj]; (repeat rw [if_neg (by omega)]); exact pr_ab (s := s) P)), ((by simp only [i_ui, j_ui, i_uj, j_uj]; (repeat rw [if_neg (by omega)]); exact pr_bl (s := s) P))⟩
                have x1 : hp_fr (inR m) h (hp_ui h m 18 c) := fr_ui ⟨by omega, by omega⟩
                refine k_aload_n rfl rfl ?_
                refine k_cV0 rfl cw_R_changed wd_467 (sr_o S) rfl (by decide) (Nat.le_of_ble_eq_true rfl) ?_
                refine c_R_changed P1 (fun h2 x2 P2 => ?_)
                refine k_iconst (v := nI 1) rfl (by decide) ?_
                refine k_zret rfl rfl (by decide) (Nat.le_refl _) (Nat.le_refl _) ?_
                exact hQ h2 (fr_tr x1 x2) P2
              · have e61 := (nI_is0 (by omega)).mp c61
                rw [decide_eq_true e61] at hQ
                refine k_iconst (v := nI 0) rfl (by decide) ?_
                refine k_zret rfl rfl (by decide) (Nat.le_refl _) (Nat.le_refl _) ?_
                exact hQ h fr_rf P
theorem c_R_looker {g : Gx} {h : Hp} {m d : Nat} {s : St} {Q : Option Value → Hp → Prop} (P : PR g h m s) (I : Inv s) (a b : Int64) (q : Int32) (hQ : ∀ h1, hp_fr (inR m) h h1 → PR g h1 m (lrS s a b q).2 → Q (some (.int ((lrS s a b q).1))) h1) : Ct g M_R_looker (d + 1) 0 0 [.ref m, .long a, .long b, .int q] h Q := by
  have S := pr_S P
  have bT := v_told I
  have bL := v_lkr I
  refine ct_of ok_R_looker (by decide) (Nat.le_of_ble_eq_true rfl) [some (.ref m), some (.long a), none, some (.long b), none, some (.int q)] rfl rfl ?_
  have bK := v_lks I
  unfold lrS at hQ
  refine k_aload_n rfl rfl ?_
  refine k_gI rfl rfl (sr_o S) (pr_lkr P) ?_
  refine k_iconst (v := nI 4) rfl (by decide) ?_
  refine kn_eq rfl (by omega) (by omega) (fun c5 => ?_) (fun c5 => ?_)
  · refine k_iconst (v := -1) rfl (by decide) ?_
    refine k_iret rfl rfl (Nat.le_refl _) (Nat.le_refl _) ?_
    rw [if_pos (Or.inl (c5))] at hQ; exact hQ h fr_rf P
  · refine k_aload_n rfl rfl ?_
    refine k_gI rfl rfl (sr_o S) (pr_lks P) ?_
    refine k_if_gt rfl (fun c12 => ?_) (fun c12 => ?_)
    · refine k_iconst (v := -1) rfl (by decide) ?_
      refine k_iret rfl rfl (Nat.le_refl _) (Nat.le_refl _) ?_
      rw [if_pos (Or.inr (Or.inl ((nI_0lt (by omega)).mp c12)))] at hQ; exact hQ h fr_rf P
    · refine k_lload_n rfl rfl ?_
      refine k_lconst (v := 1) rfl (by decide) ?_
      refine kl_lt rfl rfl (fun c17 => ?_) (fun c17 => ?_)
      · refine k_iconst (v := -1) rfl (by decide) ?_
        refine k_iret rfl rfl (Nat.le_refl _) (Nat.le_refl _) ?_
        rw [if_pos (Or.inr (Or.inr (Or.inl (c17))))] at hQ; exact hQ h fr_rf P
      · refine k_lload_n rfl rfl ?_
        refine k_ldc2 rfl wd_454 ?_
        refine kl_gt rfl rfl (fun c25 => ?_) (fun c25 => ?_)
        · refine k_iconst (v := -1) rfl (by decide) ?_
          refine k_iret rfl rfl (Nat.le_refl _) (Nat.le_refl _) ?_
          rw [if_pos (Or.inr (Or.inr (Or.inr (Or.inl (c25)))))] at hQ; exact hQ h fr_rf P
        · refine k_lload_n rfl rfl ?_
          refine k_lconst (v := 1) rfl (by decide) ?_
          refine kl_lt rfl rfl (fun c31 => ?_) (fun c31 => ?_)
          · refine k_iconst (v := -1) rfl (by decide) ?_
            refine k_iret rfl rfl (Nat.le_refl _) (Nat.le_refl _) ?_
            rw [if_pos (Or.inr (Or.inr (Or.inr (Or.inr (Or.inl (c31))))))] at hQ; exact hQ h fr_rf P
          · refine k_lload_n rfl rfl ?_
            refine k_ldc2 rfl wd_454 ?_
            refine kl_gt rfl rfl (fun c39 => ?_) (fun c39 => ?_)
            · refine k_iconst (v := -1) rfl (by decide) ?_
              refine k_iret rfl rfl (Nat.le_refl _) (Nat.le_refl _) ?_
              rw [if_pos (Or.inr (Or.inr (Or.inr (Or.inr (Or.inr (Or.inl (c39)))))))] at hQ; exact hQ h fr_rf P
            · refine k_lload_n rfl rfl ?_
              refine k_lload_n rfl rfl ?_
              refine k_lmul rfl ?_
              refine k_ldc2 rfl wd_454 ?_
              refine kl_gt rfl rfl (fun c49 => ?_) (fun c49 => ?_)
              · refine k_iconst (v := -1) rfl (by decide) ?_
                refine k_iret rfl rfl (Nat.le_refl _) (Nat.le_refl _) ?_
                rw [if_pos (Or.inr (Or.inr (Or.inr (Or.inr (Or.inr (Or.inr (Or.inl (c49))))))))] at hQ; exact hQ h fr_rf P
              · refine k_iload rfl rfl ?_
                refine k_iconst (v := 1) rfl (by decide) ?_
                refine k_icmp_lt rfl (fun c56 => ?_) (fun c56 => ?_)
                · refine k_iconst (v := -1) rfl (by decide) ?_
                  refine k_iret rfl rfl (Nat.le_refl _) (Nat.le_refl _) ?_
                  rw [if_pos (Or.inr (Or.inr (Or.inr (Or.inr (Or.inr (Or.inr (Or.inr (Or.inl (c56)))))))))] at hQ; exact hQ h fr_rf P
                · refine k_iload rfl rfl ?_
                  refine k_bipush (v := 24) rfl (by decide) ?_
                  refine k_icmp_le rfl (fun c63 => ?_) (fun c63 => ?_)
                  · have na : ¬ a < 0 := fun z => c17 (Int64.lt_trans z (by decide))
                    have nb : ¬ b < 0 := fun z => c31 (Int64.lt_trans z (by decide))
                    obtain ⟨ea, ba⟩ := LN_of na
                    obtain ⟨eb, bb⟩ := LN_of nb
                    have la : LN a ≤ 1000 := LN_le na (by decide) c25
                    have lb : LN b ≤ 1000 := LN_le nb (by decide) c39
                    have nq : ¬ q < 0 := fun z => c56 (Int32.lt_trans z (by decide))
                    obtain ⟨q0, hq0, eq1⟩ := nI_of nq
                    have eq0 : q = nI q.toNatClampNeg := by rw [eq1, nI_clamp hq0]
                    have eab : lN (LN a) * lN (LN b) = lN (LN a * LN b) := lN_mul _ _
                    rw [if_neg (by
                      intro z
                      rcases z with z | z | z | z | z | z | z | z | z
                      · exact c5 z
                      · exact c12 ((nI_0lt (by omega)).mpr z)
                      · exact c17 z
                      · exact c25 z
                      · exact c31 z
                      · exact c39 z
                      · exact c49 z
                      · exact c56 z
                      · exact absurd c63 (Int32.not_le.mpr z))] at hQ
                    refine k_aload_n rfl rfl ?_
                    refine k_getR rfl rfl (sr_o S) (sr_rate S) ?_
                    refine k_aload_n rfl rfl ?_
                    refine k_gI rfl rfl (sr_o S) (pr_lkr P) ?_
                    refine k_lload_n rfl rfl ?_
                    refine k_lload_n rfl rfl ?_
                    refine k_lmul rfl ?_
                    rw [show a * b = lN (LN a * LN b) from by rw [← eab, ← ea, ← eb]]
                    refine k_l2iN rfl ?_
                    refine k_iS rfl (sr_a4 S) rfl (by omega) (by decide) ?_
                    refine k_aload_n rfl rfl ?_
                    refine k_getR rfl rfl (sr_o S) (sr_hours S) ?_
                    refine k_aload_n rfl rfl ?_
                    refine k_gI (x := nI (s_lkr s)) rfl rfl (sr_o S) (by rw [i_ui, if_neg (by omega)]; exact pr_lkr P) ?_
                    refine k_iload rfl rfl ?_
                    refine k_iS rfl (sr_a5 S) rfl (by omega) (by decide) ?_
                    refine k_aload_n rfl rfl ?_
                    refine k_dup rfl rfl ?_
                    refine k_gI (x := nI (s_lkr s)) rfl rfl (sr_o S) (by rw [i_ui, if_neg (by omega), i_ui, if_neg (by omega)]; exact pr_lkr P) ?_
                    refine k_iconst (v := nI 1) rfl (by decide) ?_
                    refine k_iaddN rfl ?_
                    refine k_putI rfl rfl rfl (sr_o S) ?_
                    refine k_aload_n rfl rfl ?_
                    have P1 : PR g (hp_ui (hp_ui (hp_ui h (m + 4) (s_lkr s) (nI (LN a * LN b))) (m + 5) (s_lkr s) q) m 6 (nI (s_lkr s + 1))) m (w_lkr (w_hr (w_rt s (va_up (s_rt s) (s_lkr s) (LN a * LN b))) (va_up (s_hr s) (s_lkr s) q.toNatClampNeg)) (s_lkr s + 1)) := ⟨S, ((by simp only [i_ui, j_ui, i_uj, j_uj]; (repeat rw [if_neg (by omega)]); exact pr_cells (s := s) P)), ((by simp only [i_ui, j_ui, i_uj, j_uj]; (repeat rw [if_neg (by omega)]); exact pr_told (s := s) P)), (fun k z => (by simp only [i_ui, j_ui, i_uj, j_uj]; (repeat rw [if_neg (by omega)]); exact pr_num (s := s) P k z)), (fun k z => (by simp only [i_ui, j_ui, i_uj, j_uj]; (repeat rw [if_neg (by omega)]); exact pr_ar (s := s) P k z)), (fun t k z y => (by simp only [i_ui, j_ui, i_uj, j_uj]; (repeat rw [if_neg (by omega)]); exact pr_cn (s := s) P t k z y)), ((by simp only [i_ui, j_ui, i_uj, j_uj]; (repeat rw [if_neg (by omega)]); exact pr_things (s := s) P)), (by rw [i_ui, if_pos ⟨rfl, rfl⟩]; rfl), (fun l z => by
                        show _ = nI (va_up (s_rt s) (s_lkr s) (LN a * LN b) l)
                        have z : l < s_lkr s + 1 := z
                        rw [i_ui, if_neg (by omega), i_ui, if_neg (by omega), i_ui]
                        by_cases e : l = s_lkr s
                        · rw [if_pos ⟨rfl, e⟩, e, va_up_self]
                        · rw [if_neg (fun y => e y.2), va_up_ne _ _ e]; exact pr_rt P l (by omega)), (fun l z => by
                        show _ = nI (va_up (s_hr s) (s_lkr s) q.toNatClampNeg l)
                        have z : l < s_lkr s + 1 := z
                        rw [i_ui, if_neg (by omega), i_ui]
                        by_cases e : l = s_lkr s
                        · rw [if_pos ⟨rfl, e⟩, e, va_up_self]; exact eq0
                        · rw [if_neg (fun y => e y.2), i_ui, if_neg (by omega), va_up_ne _ _ e]; exact pr_hr P l (by omega)), (fun t k z y => (by simp only [i_ui, j_ui, i_uj, j_uj]; (repeat rw [if_neg (by omega)]); exact pr_bd (s := s) P t k z y)), (fun t k z y => (by simp only [i_ui, j_ui, i_uj, j_uj]; (repeat rw [if_neg (by omega)]); exact pr_pl (s := s) P t k z y)), (fun t k z y => (by simp only [i_ui, j_ui, i_uj, j_uj]; (repeat rw [if_neg (by omega)]); exact pr_ld (s := s) P t k z y)), ((by simp only [i_ui, j_ui, i_uj, j_uj]; (repeat rw [if_neg (by omega)]); exact pr_lks (s := s) P)), (fun k z => (by simp only [i_ui, j_ui, i_uj, j_uj]; (repeat rw [if_neg (by omega)]); exact pr_gl (s := s) P k z)), (fun k z => (by simp only [i_ui, j_ui, i_uj, j_uj]; (repeat rw [if_neg (by omega)]); exact pr_gc (s := s) P k z)), (fun k z => (by simp only [i_ui, j_ui, i_uj, j_uj]; (repeat rw [if_neg (by omega)]); exact pr_gh (s := s) P k z)), (fun k z => (by simp only [i_ui, j_ui, i_uj, j_uj]; (repeat rw [if_neg (by omega)]); exact pr_gt (s := s) P k z)), ((by simp only [i_ui, j_ui, i_uj, j_uj]; (repeat rw [if_neg (by omega)]); exact pr_seen (s := s) P)), ((by simp only [i_ui, j_ui, i_uj, j_uj]; (repeat rw [if_neg (by omega)]); exact pr_ab (s := s) P)), ((by simp only [i_ui, j_ui, i_uj, j_uj]; (repeat rw [if_neg (by omega)]); exact pr_bl (s := s) P))⟩
                    have x1 : hp_fr (inR m) h (hp_ui (hp_ui (hp_ui h (m + 4) (s_lkr s) (nI (LN a * LN b))) (m + 5) (s_lkr s) q) m 6 (nI (s_lkr s + 1))) := fr_tr (fr_tr (fr_ui ⟨by omega, by omega⟩) (fr_ui ⟨by omega, by omega⟩)) (fr_ui ⟨by omega, by omega⟩)
                    refine k_cV0 rfl cw_R_changed wd_467 (sr_o S) rfl (by decide) (Nat.le_of_ble_eq_true rfl) ?_
                    refine c_R_changed P1 (fun h2 x2 P2 => ?_)
                    refine k_aload_n rfl rfl ?_
                    refine k_gI (x := nI (s_lkr s + 1)) rfl rfl (sr_o (pr_S P2)) (pr_lkr P2) ?_
                    refine k_iconst (v := nI 1) rfl (by decide) ?_
                    refine k_isubN rfl (by omega) ?_
                    refine k_iret rfl rfl (Nat.le_refl _) (Nat.le_refl _) ?_
                    exact hQ h2 (fr_tr x1 x2) P2
                  · refine k_iconst (v := -1) rfl (by decide) ?_
                    refine k_iret rfl rfl (Nat.le_refl _) (Nat.le_refl _) ?_
                    rw [if_pos (Or.inr (Or.inr (Or.inr (Or.inr (Or.inr (Or.inr (Or.inr (Or.inr ((Int32.not_le.mp c63))))))))))] at hQ; exact hQ h fr_rf P
theorem c_R_look {g : Gx} {h : Hp} {m d : Nat} {s : St} {Q : Option Value → Hp → Prop} (P : PR g h m s) (I : Inv s) (l c : Int32) (q t : Int64) (hQ : ∀ h1, hp_fr (inR m) h h1 → PR g h1 m (lkS s l c q t).2 → Q (some (.int ((lkS s l c q t).1))) h1) : Ct g M_R_look (d + 1) 0 0 [.ref m, .int l, .int c, .long q, .long t] h Q := by
  have S := pr_S P
  have bT := v_told I
  have bL := v_lkr I
  refine ct_of ok_R_look (by decide) (Nat.le_of_ble_eq_true rfl) [some (.ref m), some (.int l), some (.int c), some (.long q), none, some (.long t), none] rfl rfl ?_
  have bK := v_lks I
  have hcb := v_cells I
  unfold lkS at hQ
  cases hp : plS s c with
  | none =>
    rw [hp] at hQ
    refine k_aload_n rfl rfl ?_
    refine k_iload_n rfl rfl ?_
    refine k_cV1 rfl cw_R_isLooker wd_484 (sr_o S) rfl (by decide) (Nat.le_of_ble_eq_true rfl) ?_
    refine c_R_isLooker P I l ?_
    refine kb_eq rfl (fun c5 => ?_) (fun c5 => ?_)
    · refine k_iconst (v := -1) rfl (by decide) ?_
      refine k_iret rfl rfl (Nat.le_refl _) (Nat.le_refl _) ?_
      exact hQ h fr_rf P
    · refine k_aload_n rfl rfl ?_
      refine k_iload_n rfl rfl ?_
      refine k_cV1 rfl cw_R_isCell wd_450 (sr_o S) rfl (by decide) (Nat.le_of_ble_eq_true rfl) ?_
      refine c_R_isCell P I c ?_
      refine kb_eq rfl (fun c13 => ?_) (fun c13 => ?_)
      · refine k_iconst (v := -1) rfl (by decide) ?_
        refine k_iret rfl rfl (Nat.le_refl _) (Nat.le_refl _) ?_
        exact hQ h fr_rf P
      · refine k_aload_n rfl rfl ?_
        refine k_iload_n rfl rfl ?_
        refine k_cV1 rfl cw_R_place wd_455 (sr_o S) rfl (by decide) (Nat.le_of_ble_eq_true rfl) ?_
        refine c_R_place P I c ?_
        rw [hp]
        refine k_iconst (v := -1) rfl (by decide) ?_
        refine k_icmp_eq rfl (fun c22 => ?_) (fun c22 => ?_)
        · refine k_iconst (v := -1) rfl (by decide) ?_
          refine k_iret rfl rfl (Nat.le_refl _) (Nat.le_refl _) ?_
          exact hQ h fr_rf P
        · exact absurd rfl c22
  | some k =>
    have hk := plS_lt hp
    have hnb := v_num I k hk
    rw [hp] at hQ
    simp only at hQ
    refine k_aload_n rfl rfl ?_
    refine k_iload_n rfl rfl ?_
    refine k_cV1 rfl cw_R_isLooker wd_484 (sr_o S) rfl (by decide) (Nat.le_of_ble_eq_true rfl) ?_
    refine c_R_isLooker P I l ?_
    refine kb_eq rfl (fun c5 => ?_) (fun c5 => ?_)
    · refine k_iconst (v := -1) rfl (by decide) ?_
      refine k_iret rfl rfl (Nat.le_refl _) (Nat.le_refl _) ?_
      rw [if_pos (Or.inl (c5))] at hQ; exact hQ h fr_rf P
    · refine k_aload_n rfl rfl ?_
      refine k_iload_n rfl rfl ?_
      refine k_cV1 rfl cw_R_isCell wd_450 (sr_o S) rfl (by decide) (Nat.le_of_ble_eq_true rfl) ?_
      refine c_R_isCell P I c ?_
      refine kb_eq rfl (fun c13 => ?_) (fun c13 => ?_)
      · exact absurd (pl_isc I hp) (by rw [c13]; decide)
      · refine k_aload_n rfl rfl ?_
        refine k_iload_n rfl rfl ?_
        refine k_cV1 rfl cw_R_place wd_455 (sr_o S) rfl (by decide) (Nat.le_of_ble_eq_true rfl) ?_
        refine c_R_place P I c ?_
        rw [hp]
        refine k_iconst (v := -1) rfl (by decide) ?_
        refine k_icmp_eq rfl (fun c22 => ?_) (fun c22 => ?_)
        · exact absurd c22 (nI_m1 (by omega))
        · refine k_aload_n rfl rfl ?_
          refine k_gI rfl rfl (sr_o S) (pr_seen P) ?_
          refine k_iconst (v := -1) rfl (by decide) ?_
          refine k_icmp_ne rfl (fun c30 => ?_) (fun c30 => ?_)
          · have hse : s_seen s ≠ none := fun z => c30 (by rw [z]; rfl)
            refine k_iconst (v := -1) rfl (by decide) ?_
            refine k_iret rfl rfl (Nat.le_refl _) (Nat.le_refl _) ?_
            rw [if_pos (Or.inr (Or.inl (hse)))] at hQ; exact hQ h fr_rf P
          · have hse : ¬ s_seen s ≠ none := by
              cases hs : s_seen s with
              | none => simp
              | some q => rw [hs] at c30; exact absurd c30 (nI_m1 (by have := v_seen I q hs; omega))
            refine k_aload_n rfl rfl ?_
            refine k_gI rfl rfl (sr_o S) (pr_lks P) ?_
            refine k_sipush (v := nI 200) rfl (by decide) ?_
            refine kn_eq rfl (by omega) (by omega) (fun c40 => ?_) (fun c40 => ?_)
            · refine k_iconst (v := -1) rfl (by decide) ?_
              refine k_iret rfl rfl (Nat.le_refl _) (Nat.le_refl _) ?_
              rw [if_pos (Or.inr (Or.inr (Or.inl (c40))))] at hQ; exact hQ h fr_rf P
            · refine k_lload_n rfl rfl ?_
              refine k_lconst (v := 1) rfl (by decide) ?_
              refine kl_lt rfl rfl (fun c45 => ?_) (fun c45 => ?_)
              · refine k_iconst (v := -1) rfl (by decide) ?_
                refine k_iret rfl rfl (Nat.le_refl _) (Nat.le_refl _) ?_
                rw [if_pos (Or.inr (Or.inr (Or.inr (Or.inl (c45)))))] at hQ; exact hQ h fr_rf P
              · refine k_lload_n rfl rfl ?_
                refine k_ldc2 rfl wd_502 ?_
                refine kl_gt rfl rfl (fun c53 => ?_) (fun c53 => ?_)
                · refine k_iconst (v := -1) rfl (by decide) ?_
                  refine k_iret rfl rfl (Nat.le_refl _) (Nat.le_refl _) ?_
                  rw [if_pos (Or.inr (Or.inr (Or.inr (Or.inr (Or.inl (c53))))))] at hQ; exact hQ h fr_rf P
                · refine k_lload rfl rfl ?_
                  refine k_lconst (v := 0) rfl (by decide) ?_
                  refine kl_ge rfl rfl (fun c60 => ?_) (fun c60 => ?_)
                  · obtain ⟨l0, hl0, el, ecl⟩ := isc_of (by omega) c5
                    have nq : ¬ q < 0 := fun z => c45 (Int64.lt_trans z (by decide))
                    obtain ⟨eq, bq⟩ := LN_of nq
                    have lq : LN q ≤ 100 := LN_le nq (by decide) c53
                    obtain ⟨et, bt9⟩ := LN_of (x := t) (fun z => absurd c60 (Int64.not_le.mpr z))
                    have hld0 := v_ld I l0 k (by omega) hk
                    rw [if_neg (by
                      intro z
                      rcases z with z | z | z | z | z | z
                      · rw [c5] at z; cases z
                      · exact hse z
                      · exact c40 z
                      · exact c45 z
                      · exact c53 z
                      · exact absurd c60 (Int64.not_le.mpr z))] at hQ
                    refine k_aload_n rfl rfl ?_
                    refine k_getR rfl rfl (sr_o S) (sr_lookLooker S) ?_
                    refine k_aload_n rfl rfl ?_
                    refine k_gI rfl rfl (sr_o S) (pr_lks P) ?_
                    refine k_iload_n rfl rfl ?_
                    refine k_iS rfl (sr_a10 S) rfl (by omega) (by decide) ?_
                    refine k_aload_n rfl rfl ?_
                    refine k_getR rfl rfl (sr_o S) (sr_lookCell S) ?_
                    refine k_aload_n rfl rfl ?_
                    refine k_gI (x := nI (s_lks s)) rfl rfl (sr_o S) (by simp only [i_ui, i_uj]; (repeat rw [if_neg (by omega)]); exact pr_lks P) ?_
                    refine k_iload_n rfl rfl ?_
                    refine k_iS rfl (sr_a11 S) rfl (by omega) (by decide) ?_
                    refine k_aload_n rfl rfl ?_
                    refine k_getR rfl rfl (sr_o S) (sr_lookHours S) ?_
                    refine k_aload_n rfl rfl ?_
                    refine k_gI (x := nI (s_lks s)) rfl rfl (sr_o S) (by simp only [i_ui, i_uj]; (repeat rw [if_neg (by omega)]); exact pr_lks P) ?_
                    refine k_lload_n rfl rfl ?_
                    refine k_l2i rfl ?_
                    rw [show q.toInt32 = nI (LN q) from by rw [eq, lN_i, ← eq]]
                    refine k_iS rfl (sr_a12 S) rfl (by omega) (by decide) ?_
                    refine k_aload_n rfl rfl ?_
                    refine k_getR rfl rfl (sr_o S) (sr_lookTold S) ?_
                    refine k_aload_n rfl rfl ?_
                    refine k_gI (x := nI (s_lks s)) rfl rfl (sr_o S) (by simp only [i_ui, i_uj]; (repeat rw [if_neg (by omega)]); exact pr_lks P) ?_
                    refine k_lload rfl rfl ?_
                    refine k_lS rfl (sr_a13 S) rfl (by omega) (by decide) ?_
                    refine k_aload_n rfl rfl ?_
                    refine k_getR rfl rfl (sr_o S) (sr_looked S) ?_
                    refine k_bipush (v := nI 40) rfl (by decide) ?_
                    refine k_iload_n rfl rfl ?_
                    refine k_imul rfl ?_
                    refine k_aload_n rfl rfl ?_
                    refine k_iload_n rfl rfl ?_
                    have P5 : PR g (hp_uj (hp_ui (hp_ui (hp_ui h (m + 10) (s_lks s) l) (m + 11) (s_lks s) c) (m + 12) (s_lks s) (nI (LN q))) (m + 13) (s_lks s) t) m s := ⟨S, ((by simp only [i_ui, j_ui, i_uj, j_uj]; (repeat rw [if_neg (by omega)]); exact pr_cells (s := s) P)), ((by simp only [i_ui, j_ui, i_uj, j_uj]; (repeat rw [if_neg (by omega)]); exact pr_told (s := s) P)), (fun k z => (by simp only [i_ui, j_ui, i_uj, j_uj]; (repeat rw [if_neg (by omega)]); exact pr_num (s := s) P k z)), (fun k z => (by simp only [i_ui, j_ui, i_uj, j_uj]; (repeat rw [if_neg (by omega)]); exact pr_ar (s := s) P k z)), (fun t k z y => (by simp only [i_ui, j_ui, i_uj, j_uj]; (repeat rw [if_neg (by omega)]); exact pr_cn (s := s) P t k z y)), ((by simp only [i_ui, j_ui, i_uj, j_uj]; (repeat rw [if_neg (by omega)]); exact pr_things (s := s) P)), ((by simp only [i_ui, j_ui, i_uj, j_uj]; (repeat rw [if_neg (by omega)]); exact pr_lkr (s := s) P)), (fun k z => (by simp only [i_ui, j_ui, i_uj, j_uj]; (repeat rw [if_neg (by omega)]); exact pr_rt (s := s) P k z)), (fun k z => (by simp only [i_ui, j_ui, i_uj, j_uj]; (repeat rw [if_neg (by omega)]); exact pr_hr (s := s) P k z)), (fun t k z y => (by simp only [i_ui, j_ui, i_uj, j_uj]; (repeat rw [if_neg (by omega)]); exact pr_bd (s := s) P t k z y)), (fun t k z y => (by simp only [i_ui, j_ui, i_uj, j_uj]; (repeat rw [if_neg (by omega)]); exact pr_pl (s := s) P t k z y)), (fun t k z y => (by simp only [i_ui, j_ui, i_uj, j_uj]; (repeat rw [if_neg (by omega)]); exact pr_ld (s := s) P t k z y)), ((by simp only [i_ui, j_ui, i_uj, j_uj]; (repeat rw [if_neg (by omega)]); exact pr_lks (s := s) P)), (fun k z => (by simp only [i_ui, j_ui, i_uj, j_uj]; (repeat rw [if_neg (by omega)]); exact pr_gl (s := s) P k z)), (fun k z => (by simp only [i_ui, j_ui, i_uj, j_uj]; (repeat rw [if_neg (by omega)]); exact pr_gc (s := s) P k z)), (fun k z => (by simp only [i_ui, j_ui, i_uj, j_uj]; (repeat rw [if_neg (by omega)]); exact pr_gh (s := s) P k z)), (fun k z => (by simp only [i_ui, j_ui, i_uj, j_uj]; (repeat rw [if_neg (by omega)]); exact pr_gt (s := s) P k z)), ((by simp only [i_ui, j_ui, i_uj, j_uj]; (repeat rw [if_neg (by omega)]); exact pr_seen (s := s) P)), ((by simp only [i_ui, j_ui, i_uj, j_uj]; (repeat rw [if_neg (by omega)]); exact pr_ab (s := s) P)), ((by simp only [i_ui, j_ui, i_uj, j_uj]; (repeat rw [if_neg (by omega)]); exact pr_bl (s := s) P))⟩
                    have f10 : hp_i (hp_uj (hp_ui (hp_ui (hp_ui h (m + 10) (s_lks s) l) (m + 11) (s_lks s) c) (m + 12) (s_lks s) (nI (LN q))) (m + 13) (s_lks s) t) (m + 10) (s_lks s) = l := by simp [i_ui, i_uj]
                    have f11 : hp_i (hp_uj (hp_ui (hp_ui (hp_ui h (m + 10) (s_lks s) l) (m + 11) (s_lks s) c) (m + 12) (s_lks s) (nI (LN q))) (m + 13) (s_lks s) t) (m + 11) (s_lks s) = c := by simp [i_ui, i_uj]
                    have f12 : hp_i (hp_uj (hp_ui (hp_ui (hp_ui h (m + 10) (s_lks s) l) (m + 11) (s_lks s) c) (m + 12) (s_lks s) (nI (LN q))) (m + 13) (s_lks s) t) (m + 12) (s_lks s) = nI (LN q) := by simp [i_ui, i_uj]
                    have f13 : hp_j (hp_uj (hp_ui (hp_ui (hp_ui h (m + 10) (s_lks s) l) (m + 11) (s_lks s) c) (m + 12) (s_lks s) (nI (LN q))) (m + 13) (s_lks s) t) (m + 13) (s_lks s) = t := by simp [j_uj]
                    have x5 : hp_fr (inR m) h (hp_uj (hp_ui (hp_ui (hp_ui h (m + 10) (s_lks s) l) (m + 11) (s_lks s) c) (m + 12) (s_lks s) (nI (LN q))) (m + 13) (s_lks s) t) := fr_tr (fr_tr (fr_tr (fr_ui ⟨by omega, by omega⟩) (fr_ui ⟨by omega, by omega⟩)) (fr_ui ⟨by omega, by omega⟩)) (fr_uj ⟨by omega, by omega⟩)
                    generalize (hp_uj (hp_ui (hp_ui (hp_ui h (m + 10) (s_lks s) l) (m + 11) (s_lks s) c) (m + 12) (s_lks s) (nI (LN q))) (m + 13) (s_lks s) t) = h5 at P5 f10 f11 f12 f13 x5 ⊢
                    have S5 := pr_S P5
                    refine k_cV1 rfl cw_R_place wd_455 (sr_o S5) rfl (by decide) (Nat.le_of_ble_eq_true rfl) ?_
                    refine c_R_place P5 I c ?_
                    rw [hp]
                    refine k_iadd rfl ?_
                    refine k_dup2 rfl rfl rfl ?_
                    refine k_iA rfl (sr_a9 S5) (j := 40 * l0 + k) (by rw [el]; exact ix40 l0 k) (by omega) (by decide) (pr_ld P5 l0 k (by omega) hk) ?_
                    refine k_lload_n rfl rfl ?_
                    refine k_l2i rfl ?_
                    rw [show q.toInt32 = nI (LN q) from by rw [eq, lN_i, ← eq]]
                    refine k_iaddN rfl ?_
                    refine k_iS rfl (sr_a9 S5) (j := 40 * l0 + k) (by rw [el]; exact ix40 l0 k) (by omega) (by decide) ?_
                    refine k_aload_n rfl rfl ?_
                    refine k_dup rfl rfl ?_
                    refine k_gI (x := nI (s_lks s)) rfl rfl (sr_o S5) (by rw [i_ui, if_neg (by omega)]; exact pr_lks P5) ?_
                    refine k_iconst (v := nI 1) rfl (by decide) ?_
                    refine k_iaddN rfl ?_
                    refine k_putI rfl rfl rfl (sr_o S5) ?_
                    refine k_aload_n rfl rfl ?_
                    have P1 : PR g (hp_ui (hp_ui h5 (m + 9) (40 * l0 + k) (nI (s_ld s l0 k + LN q))) m 13 (nI (s_lks s + 1))) m (lkT s l.toNatClampNeg k (LN q) (LN t)) := ⟨S5, ((by simp only [i_ui, j_ui, i_uj, j_uj]; (repeat rw [if_neg (by omega)]); exact pr_cells (s := s) P5)), ((by simp only [i_ui, j_ui, i_uj, j_uj]; (repeat rw [if_neg (by omega)]); exact pr_told (s := s) P5)), (fun k z => (by simp only [i_ui, j_ui, i_uj, j_uj]; (repeat rw [if_neg (by omega)]); exact pr_num (s := s) P5 k z)), (fun k z => (by simp only [i_ui, j_ui, i_uj, j_uj]; (repeat rw [if_neg (by omega)]); exact pr_ar (s := s) P5 k z)), (fun t k z y => (by simp only [i_ui, j_ui, i_uj, j_uj]; (repeat rw [if_neg (by omega)]); exact pr_cn (s := s) P5 t k z y)), ((by simp only [i_ui, j_ui, i_uj, j_uj]; (repeat rw [if_neg (by omega)]); exact pr_things (s := s) P5)), ((by simp only [i_ui, j_ui, i_uj, j_uj]; (repeat rw [if_neg (by omega)]); exact pr_lkr (s := s) P5)), (fun k z => (by simp only [i_ui, j_ui, i_uj, j_uj]; (repeat rw [if_neg (by omega)]); exact pr_rt (s := s) P5 k z)), (fun k z => (by simp only [i_ui, j_ui, i_uj, j_uj]; (repeat rw [if_neg (by omega)]); exact pr_hr (s := s) P5 k z)), (fun t k z y => (by simp only [i_ui, j_ui, i_uj, j_uj]; (repeat rw [if_neg (by omega)]); exact pr_bd (s := s) P5 t k z y)), (fun t k z y => (by simp only [i_ui, j_ui, i_uj, j_uj]; (repeat rw [if_neg (by omega)]); exact pr_pl (s := s) P5 t k z y)), (fun l1 k1 z y => by
                        show _ = nI (ldU s l.toNatClampNeg k (LN q) l1 k1)
                        have y : k1 < s_told s := y
                        unfold ldU
                        rw [ecl]
                        rw [i_ui, if_neg (by omega), i_ui]
                        by_cases e : l1 = l0 ∧ k1 = k
                        · rw [if_pos ⟨rfl, by omega⟩, if_pos e, e.1, e.2]
                        · rw [if_neg (by omega), if_neg e]
                          exact pr_ld P5 l1 k1 z y), (by rw [i_ui, if_pos ⟨rfl, rfl⟩]; rfl), (fun i z => by
                        show _ = nI (va_up (s_gl s) (s_lks s) (l.toNatClampNeg) i)
                        have z : i < s_lks s + 1 := z
                        simp only [i_ui, j_ui]
                        (repeat rw [if_neg (by omega)])
                        by_cases e : i = s_lks s
                        · rw [e, va_up_self]; rw [ecl]; exact f10.trans el
                        · rw [va_up_ne _ _ e]; exact pr_gl P5 i (by omega)), (fun i z => by
                        show _ = nI (va_up (s_gc s) (s_lks s) (s_num s k) i)
                        have z : i < s_lks s + 1 := z
                        simp only [i_ui, j_ui]
                        (repeat rw [if_neg (by omega)])
                        by_cases e : i = s_lks s
                        · rw [e, va_up_self]; exact f11.trans (plS_c hp)
                        · rw [va_up_ne _ _ e]; exact pr_gc P5 i (by omega)), (fun i z => by
                        show _ = nI (va_up (s_gh s) (s_lks s) (LN q) i)
                        have z : i < s_lks s + 1 := z
                        simp only [i_ui, j_ui]
                        (repeat rw [if_neg (by omega)])
                        by_cases e : i = s_lks s
                        · rw [e, va_up_self]; exact f12
                        · rw [va_up_ne _ _ e]; exact pr_gh P5 i (by omega)), (fun i z => by
                        show _ = lN (va_up (s_gt s) (s_lks s) (LN t) i)
                        have z : i < s_lks s + 1 := z
                        simp only [i_ui, j_ui]
                        (repeat rw [if_neg (by omega)])
                        by_cases e : i = s_lks s
                        · rw [e, va_up_self]; exact f13.trans et
                        · rw [va_up_ne _ _ e]; exact pr_gt P5 i (by omega)), ((by simp only [i_ui, j_ui, i_uj, j_uj]; (repeat rw [if_neg (by omega)]); exact pr_seen (s := s) P5)), ((by simp only [i_ui, j_ui, i_uj, j_uj]; (repeat rw [if_neg (by omega)]); exact pr_ab (s := s) P5)), ((by simp only [i_ui, j_ui, i_uj, j_uj]; (repeat rw [if_neg (by omega)]); exact pr_bl (s := s) P5))⟩
                    have x1 : hp_fr (inR m) h (hp_ui (hp_ui h5 (m + 9) (40 * l0 + k) (nI (s_ld s l0 k + LN q))) m 13 (nI (s_lks s + 1))) := fr_tr (fr_tr x5 (fr_ui ⟨by omega, by omega⟩)) (fr_ui ⟨by omega, by omega⟩)
                    refine k_gI (x := nI (s_lks s + 1)) rfl rfl (sr_o (pr_S P1)) (pr_lks P1) ?_
                    refine k_iconst (v := nI 1) rfl (by decide) ?_
                    refine k_isubN rfl (by omega) ?_
                    refine k_iret rfl rfl (Nat.le_refl _) (Nat.le_refl _) ?_
                    exact hQ _ x1 P1
                  · refine k_iconst (v := -1) rfl (by decide) ?_
                    refine k_iret rfl rfl (Nat.le_refl _) (Nat.le_refl _) ?_
                    rw [if_pos (Or.inr (Or.inr (Or.inr (Or.inr (Or.inr ((Int64.not_le.mp c60)))))))] at hQ; exact hQ h fr_rf P
end
section
/-- the cells that move writes -/
def inM (m : Nat) (a : Nat) : Prop := a = m + 1 ∨ a = m + 2 ∨ a = m + 3 ∨ a = m + 9
/-- column f has gone to column t, in the rows below i -/
def mvd (h h1 : Hp) (a f t i : Nat) : Prop := ∀ r k, r < 4 → k < 40 → hp_i h1 a (40 * r + k) = if k = t ∧ r < i then hp_i h a (40 * r + f) else hp_i h a (40 * r + k)
theorem c_R_move {g : Gx} {h : Hp} {m d f t : Nat} {Q : Option Value → Hp → Prop} (S : ShR g h m) (hf : f < 40) (ht : t < 40) (hft : f ≠ t) (hQ : ∀ h1, hp_fr (inM m) h h1 → hp_r h1 = hp_r h → (∀ k, hp_i h1 (m + 1) k = if k = t then hp_i h (m + 1) f else hp_i h (m + 1) k) → (∀ k, hp_i h1 (m + 2) k = if k = t then hp_i h (m + 2) f else hp_i h (m + 2) k) → mvd h h1 (m + 3) f t 4 → mvd h h1 (m + 9) f t 4 → Q none h1) : Ct g M_R_move d 0 0 [.ref m, .int (nI f), .int (nI t)] h Q := by
  refine ct_of ok_R_move (by decide) (Nat.le_of_ble_eq_true rfl) [some (.ref m), some (.int (nI f)), some (.int (nI t)), none] rfl rfl ?_
  refine k_aload_n rfl rfl ?_
  refine k_getR rfl rfl (sr_o S) (sr_cell S) ?_
  refine k_iload_n rfl rfl ?_
  refine k_aload_n rfl rfl ?_
  refine k_getR rfl rfl (sr_o S) (sr_cell S) ?_
  refine k_iload_n rfl rfl ?_
  refine k_iA rfl (sr_a1 S) rfl (by omega) (by decide) rfl ?_
  refine k_iS rfl (sr_a1 S) rfl (by omega) (by decide) ?_
  refine k_aload_n rfl rfl ?_
  refine k_getR rfl rfl (sr_o S) (sr_areas S) ?_
  refine k_iload_n rfl rfl ?_
  refine k_aload_n rfl rfl ?_
  refine k_getR rfl rfl (sr_o S) (sr_areas S) ?_
  refine k_iload_n rfl rfl ?_
  refine k_iA (x := hp_i h (m + 2) f) rfl (sr_a2 S) rfl (by omega) (by decide) (by rw [i_ui, if_neg (by omega)]) ?_
  refine k_iS rfl (sr_a2 S) rfl (by omega) (by decide) ?_
  refine k_iconst (v := nI 0) rfl (by decide) ?_
  refine k_ist3 rfl rfl ?_
  suffices H : ∀ (q i : Nat) (h1 : Hp), i + q = 4 → hp_fr (inM m) h h1 → hp_r h1 = hp_r h → (∀ k, hp_i h1 (m + 1) k = if k = t then hp_i h (m + 1) f else hp_i h (m + 1) k) → (∀ k, hp_i h1 (m + 2) k = if k = t then hp_i h (m + 2) f else hp_i h (m + 2) k) → mvd h h1 (m + 3) f t i → mvd h h1 (m + 9) f t i → Om g M_R_move d Q h1 26 [some (.ref m), some (.int (nI f)), some (.int (nI t)), some (.int (nI i))] [] from
    H 4 0 _ rfl (fr_tr (fr_ui (Or.inl rfl)) (fr_ui (Or.inr (Or.inl rfl)))) rfl
      (fun k => by rw [i_ui, if_neg (by omega), i_ui]; by_cases e : k = t
                   · rw [if_pos ⟨rfl, e⟩, if_pos e]
                   · rw [if_neg (fun z => e z.2), if_neg e])
      (fun k => by rw [i_ui]; by_cases e : k = t
                   · rw [if_pos ⟨rfl, e⟩, if_pos e]
                   · rw [if_neg (fun z => e z.2), if_neg e, i_ui, if_neg (by omega)])
      (fun r k _ _ => by rw [if_neg (by omega), i_ui, if_neg (by omega), i_ui, if_neg (by omega)])
      (fun r k _ _ => by rw [if_neg (by omega), i_ui, if_neg (by omega), i_ui, if_neg (by omega)])
  intro q
  induction q with
  | zero =>
    intro i h1 hi hF hr e1 e2 e3 e9
    have ei : i = 4 := by omega
    subst ei
    have S := sr_fr S hF (by rw [hr])
    refine k_iload_n rfl rfl ?_
    refine k_iconst (v := nI 4) rfl (by decide) ?_
    refine kn_ge rfl (by omega) (by omega) (fun c28 => ?_) (fun c28 => ?_)
    · refine k_vret rfl rfl (Nat.le_refl _) (Nat.le_refl _) ?_
      exact hQ h1 hF hr e1 e2 e3 e9
    · exact absurd c28 (by omega)
  | succ q ih =>
    intro i h1 hi hF hr e1 e2 e3 e9
    have S := sr_fr S hF (by rw [hr])
    refine k_iload_n rfl rfl ?_
    refine k_iconst (v := nI 4) rfl (by decide) ?_
    refine kn_ge rfl (by omega) (by omega) (fun c28 => ?_) (fun c28 => ?_)
    · exact absurd c28 (by omega)
    · refine k_aload_n rfl rfl ?_
      refine k_getR rfl rfl (sr_o S) (sr_count S) ?_
      refine k_bipush (v := nI 40) rfl (by decide) ?_
      refine k_iload_n rfl rfl ?_
      refine k_imul rfl ?_
      refine k_iload_n rfl rfl ?_
      refine k_iadd rfl ?_
      refine k_aload_n rfl rfl ?_
      refine k_getR rfl rfl (sr_o S) (sr_count S) ?_
      refine k_bipush (v := nI 40) rfl (by decide) ?_
      refine k_iload_n rfl rfl ?_
      refine k_imul rfl ?_
      refine k_iload_n rfl rfl ?_
      refine k_iadd rfl ?_
      refine k_iA (x := hp_i h (m + 3) (40 * i + f)) rfl (sr_a3 S) (ix40 i f) (by omega) (by decide) ((e3 i f (by omega) hf).trans (if_neg (by omega))) ?_
      refine k_iS rfl (sr_a3 S) (ix40 i t) (by omega) (by decide) ?_
      refine k_aload_n rfl rfl ?_
      refine k_getR rfl rfl (sr_o S) (sr_looked S) ?_
      refine k_bipush (v := nI 40) rfl (by decide) ?_
      refine k_iload_n rfl rfl ?_
      refine k_imul rfl ?_
      refine k_iload_n rfl rfl ?_
      refine k_iadd rfl ?_
      refine k_aload_n rfl rfl ?_
      refine k_getR rfl rfl (sr_o S) (sr_looked S) ?_
      refine k_bipush (v := nI 40) rfl (by decide) ?_
      refine k_iload_n rfl rfl ?_
      refine k_imul rfl ?_
      refine k_iload_n rfl rfl ?_
      refine k_iadd rfl ?_
      refine k_iA (x := hp_i h (m + 9) (40 * i + f)) rfl (sr_a9 S) (ix40 i f) (by omega) (by decide) (((i_ui).trans (if_neg (by omega))).trans ((e9 i f (by omega) hf).trans (if_neg (by omega)))) ?_
      refine k_iS rfl (sr_a9 S) (ix40 i t) (by omega) (by decide) ?_
      refine k_incN3 rfl rfl ?_
      refine k_goto rfl ?_
      refine ih (i + 1) _ (by omega) (fr_tr hF (fr_tr (fr_ui (Or.inr (Or.inr (Or.inl rfl)))) (fr_ui (Or.inr (Or.inr (Or.inr rfl)))))) hr (fun k => ?_) (fun k => ?_) ?_ ?_
      · rw [i_ui, if_neg (by omega), i_ui, if_neg (by omega)]; exact e1 k
      · rw [i_ui, if_neg (by omega), i_ui, if_neg (by omega)]; exact e2 k
      · exact (fun r k hr4 hk4 => by
        rw [i_ui, if_neg (by omega), i_ui]
        by_cases e : k = t ∧ r = i
        · rw [if_pos ⟨rfl, by omega⟩, if_pos (by omega), e.2]
        · rw [if_neg (by omega), e3 r k hr4 hk4]
          by_cases e5 : k = t ∧ r < i
          · rw [if_pos e5, if_pos (by omega)]
          · rw [if_neg e5, if_neg (by omega)])
      · exact (fun r k hr4 hk4 => by
        rw [i_ui]
        by_cases e : k = t ∧ r = i
        · rw [if_pos ⟨rfl, by omega⟩, if_pos (by omega), e.2]
        · rw [if_neg (by omega), i_ui, if_neg (by omega), e9 r k hr4 hk4]
          by_cases e5 : k = t ∧ r < i
          · rw [if_pos e5, if_pos (by omega)]
          · rw [if_neg e5, if_neg (by omega)])
def insN (f : Nat → Nat) (k v : Nat) : Nat → Nat := fun j => if j < k then f j else if j = k then v else f (j - 1)
/-- where a new cell c goes among the first k -/
def dnF (f : Nat → Nat) (c : Nat) : Nat → Nat
  | 0 => 0
  | k + 1 => if c < f k then dnF f c k else k + 1
theorem dnF_le (f : Nat → Nat) (c : Nat) : ∀ k, dnF f c k ≤ k
  | 0 => Nat.le_refl _
  | k + 1 => by
    have := dnF_le f c k
    simp only [dnF]
    split <;> omega
def tlT (s : St) (c k : Nat) : St := (s_cells s, s_told s + 1, insN (s_num s) k c, insN (s_ar s) k 60, (fun t => insN (s_cn s t) k 0), s_things s, s_lkr s, s_rt s, s_hr s, s_bd s, s_pl s, (fun l => insN (s_ld s l) k 0), s_lks s, s_gl s, s_gc s, s_gh s, s_gt s, s_seen s, s_ab s, s_bl s)
/-- the told cell c: the state with it, and its place -/
def tlS (s : St) (c : Int32) : Nat × St := match plS s c with
  | some k => (k, s)
  | none => (dnF (s_num s) c.toNatClampNeg (s_told s), tlT s c.toNatClampNeg (dnF (s_num s) c.toNatClampNeg (s_told s)))
theorem c_R_tell {g : Gx} {h : Hp} {m d : Nat} {s : St} {Q : Option Value → Hp → Prop} (P : PR g h m s) (I : Inv s) (c : Int32) (hc : isc (nI (s_cells s)) c = true) (hroom : plS s c ≠ none ∨ s_told s < 40) (hQ : ∀ h1, hp_fr (inR m) h h1 → PR g h1 m (tlS s c).2 → Q (some (.int (nI (tlS s c).1))) h1) : Ct g M_R_tell (d + 1) 0 0 [.ref m, .int c] h Q := by
  have S := pr_S P
  have bT := v_told I
  have bL := v_lkr I
  refine ct_of ok_R_tell (by decide) (Nat.le_of_ble_eq_true rfl) [some (.ref m), some (.int c), none, none, none] rfl rfl ?_
  have hcb := v_cells I
  unfold tlS at hQ
  cases hp : plS s c with
  | some k =>
    have hk := plS_lt hp
    rw [hp] at hQ
    refine k_aload_n rfl rfl ?_
    refine k_iload_n rfl rfl ?_
    refine k_cV1 rfl cw_R_place wd_455 (sr_o S) rfl (by decide) (Nat.le_of_ble_eq_true rfl) ?_
    refine c_R_place P I c ?_
    rw [hp]
    refine k_ist2 rfl rfl ?_
    refine k_iload_n rfl rfl ?_
    refine k_iconst (v := -1) rfl (by decide) ?_
    refine k_icmp_eq rfl (fun c8 => ?_) (fun c8 => ?_)
    · exact absurd c8 (nI_m1 (by omega))
    · refine k_iload_n rfl rfl ?_
      refine k_iret rfl rfl (Nat.le_refl _) (Nat.le_refl _) ?_
      exact hQ h fr_rf P
  | none =>
    have hT : s_told s < 40 := hroom.resolve_left (fun z => z hp)
    obtain ⟨c0, hc0, ec, ecl⟩ := isc_of (by omega) hc
    rw [hp, ecl] at hQ
    simp only at hQ
    subst ec
    refine k_aload_n rfl rfl ?_
    refine k_iload_n rfl rfl ?_
    refine k_cV1 rfl cw_R_place wd_455 (sr_o S) rfl (by decide) (Nat.le_of_ble_eq_true rfl) ?_
    refine c_R_place P I (nI c0) ?_
    rw [hp]
    refine k_ist2 rfl rfl ?_
    refine k_iload_n rfl rfl ?_
    refine k_iconst (v := -1) rfl (by decide) ?_
    refine k_icmp_eq rfl (fun c8 => ?_) (fun c8 => ?_)
    · refine k_aload_n rfl rfl ?_
      refine k_gI rfl rfl (sr_o S) (pr_told P) ?_
      refine k_ist3 rfl rfl ?_
      suffices H : ∀ (k : Nat) (h1 : Hp), k ≤ s_told s → hp_fr (inM m) h h1 → hp_r h1 = hp_r h → dnF (s_num s) c0 (s_told s) = dnF (s_num s) c0 k → (∀ k1, k1 ≤ s_told s → k1 ≠ k → hp_i h1 (m + 1) k1 = nI (if k1 < k then s_num s k1 else s_num s (k1 - 1))) → (∀ k1, k1 ≤ s_told s → k1 ≠ k → hp_i h1 (m + 2) k1 = nI (if k1 < k then s_ar s k1 else s_ar s (k1 - 1))) → (∀ r k1, r < 4 → k1 ≤ s_told s → k1 ≠ k → hp_i h1 (m + 3) (40 * r + k1) = nI (if k1 < k then s_cn s r k1 else s_cn s r (k1 - 1))) → (∀ r k1, r < 4 → k1 ≤ s_told s → k1 ≠ k → hp_i h1 (m + 9) (40 * r + k1) = nI (if k1 < k then s_ld s r k1 else s_ld s r (k1 - 1))) → Om g M_R_tell (d + 1) Q h1 18 [some (.ref m), some (.int (nI c0)), some (.int (-1)), some (.int (nI k)), none] [] from
        H (s_told s) h (Nat.le_refl _) fr_rf rfl rfl (fun k1 a b => by rw [if_pos (by omega)]; exact pr_num P k1 (by omega)) (fun k1 a b => by rw [if_pos (by omega)]; exact pr_ar P k1 (by omega)) (fun r k1 z a b => by rw [if_pos (by omega)]; exact pr_cn P r k1 z (by omega)) (fun r k1 z a b => by rw [if_pos (by omega)]; exact pr_ld P r k1 z (by omega))
      have J : ∀ (k : Nat) (h1 : Hp), k ≤ s_told s → hp_fr (inM m) h h1 → hp_r h1 = hp_r h → dnF (s_num s) c0 (s_told s) = k → (∀ k1, k1 ≤ s_told s → k1 ≠ k → hp_i h1 (m + 1) k1 = nI (if k1 < k then s_num s k1 else s_num s (k1 - 1))) → (∀ k1, k1 ≤ s_told s → k1 ≠ k → hp_i h1 (m + 2) k1 = nI (if k1 < k then s_ar s k1 else s_ar s (k1 - 1))) → (∀ r k1, r < 4 → k1 ≤ s_told s → k1 ≠ k → hp_i h1 (m + 3) (40 * r + k1) = nI (if k1 < k then s_cn s r k1 else s_cn s r (k1 - 1))) → (∀ r k1, r < 4 → k1 ≤ s_told s → k1 ≠ k → hp_i h1 (m + 9) (40 * r + k1) = nI (if k1 < k then s_ld s r k1 else s_ld s r (k1 - 1))) → Om g M_R_tell (d + 1) Q h1 48 [some (.ref m), some (.int (nI c0)), some (.int (-1)), some (.int (nI k)), none] [] := by
        intro k h1 hk hF hr ed e1 e2 e3 e9
        have S1 := sr_fr S hF (by rw [hr])
        refine k_aload_n rfl rfl ?_
        refine k_getR rfl rfl (sr_o S1) (sr_cell S1) ?_
        refine k_iload_n rfl rfl ?_
        refine k_iload_n rfl rfl ?_
        refine k_iS rfl (sr_a1 S1) rfl (by omega) (by decide) ?_
        refine k_aload_n rfl rfl ?_
        refine k_getR rfl rfl (sr_o S1) (sr_areas S1) ?_
        refine k_iload_n rfl rfl ?_
        refine k_bipush (v := nI 60) rfl (by decide) ?_
        refine k_iS rfl (sr_a2 S1) rfl (by omega) (by decide) ?_
        refine k_iconst (v := nI 0) rfl (by decide) ?_
        refine k_ist4 rfl rfl ?_
        suffices H9 : ∀ (q i : Nat) (h2 : Hp), i + q = 4 → hp_fr (inM m) h1 h2 → hp_r h2 = hp_r h1 → (∀ j, hp_i h2 (m + 1) j = if j = k then nI c0 else hp_i h1 (m + 1) j) → (∀ j, hp_i h2 (m + 2) j = if j = k then nI 60 else hp_i h1 (m + 2) j) → (∀ r k1, r < 4 → k1 < 40 → hp_i h2 (m + 3) (40 * r + k1) = if k1 = k ∧ r < i then 0 else hp_i h1 (m + 3) (40 * r + k1)) → (∀ r k1, r < 4 → k1 < 40 → hp_i h2 (m + 9) (40 * r + k1) = if k1 = k ∧ r < i then 0 else hp_i h1 (m + 9) (40 * r + k1)) → Om g M_R_tell (d + 1) Q h2 66 [some (.ref m), some (.int (nI c0)), some (.int (-1)), some (.int (nI k)), some (.int (nI i))] [] from
          H9 4 0 _ rfl (fr_tr (fr_ui (Or.inl rfl)) (fr_ui (Or.inr (Or.inl rfl)))) rfl
            (fun j => by rw [i_ui, if_neg (by omega), i_ui]; by_cases e : j = k
                         · rw [if_pos ⟨rfl, e⟩, if_pos e]
                         · rw [if_neg (fun z => e z.2), if_neg e])
            (fun j => by rw [i_ui]; by_cases e : j = k
                         · rw [if_pos ⟨rfl, e⟩, if_pos e]
                         · rw [if_neg (fun z => e z.2), if_neg e, i_ui, if_neg (by omega)])
            (fun r k1 _ _ => by rw [if_neg (by omega), i_ui, if_neg (by omega), i_ui, if_neg (by omega)])
            (fun r k1 _ _ => by rw [if_neg (by omega), i_ui, if_neg (by omega), i_ui, if_neg (by omega)])
        intro q
        induction q with
        | zero =>
          intro i h2 hi hF2 hr2 n1 n2 n3 n9
          have ei : i = 4 := by omega
          subst ei
          have S2 := sr_fr S1 hF2 (by rw [hr2])
          have hfr := fr_tr hF hF2
          have hi' : ∀ a, ¬ inM m a → ∀ j, hp_i h2 a j = hp_i h a j := fun a ha j => fr_i hfr ha j
          have hj' : ∀ a, ¬ inM m a → ∀ j, hp_j h2 a j = hp_j h a j := fun a ha j => fr_j hfr ha j
          have hT1 : hp_i h2 m 1 = nI (s_told s) := (hi' m (by unfold inM; omega) 1).trans (pr_told P)
          refine k_iload rfl rfl ?_
          refine k_iconst (v := nI 4) rfl (by decide) ?_
          refine kn_ge rfl (by omega) (by omega) (fun c69 => ?_) (fun c69 => ?_)
          · refine k_aload_n rfl rfl ?_
            refine k_dup rfl rfl ?_
            refine k_gI rfl rfl (sr_o S2) hT1 ?_
            refine k_iconst (v := nI 1) rfl (by decide) ?_
            refine k_iaddN rfl ?_
            refine k_putI rfl rfl rfl (sr_o S2) ?_
            have P1 : PR g (hp_ui h2 m 1 (nI (s_told s + 1))) m (tlT s c0 k) := ⟨S2, ((by rw [i_ui, if_neg (by omega)]; exact (hi' _ (by unfold inM; omega) _).trans (pr_cells (s := s) P))), (by rw [i_ui, if_pos ⟨rfl, rfl⟩]; rfl), (fun k1 y => by
                have y : k1 < s_told s + 1 := y
                show _ = nI (insN (s_num s) k c0 k1)
                unfold insN
                rw [i_ui, if_neg (by omega), n1 k1]
                by_cases q1 : k1 = k
                · rw [if_pos q1, if_neg (by omega), if_pos q1]
                · rw [if_neg q1]
                  rw [e1 k1 (by omega) q1]
                  by_cases q2 : k1 < k
                  · rw [if_pos q2, if_pos q2]
                  · rw [if_neg q2, if_neg q2, if_neg q1]), (fun k1 y => by
                have y : k1 < s_told s + 1 := y
                show _ = nI (insN (s_ar s) k 60 k1)
                unfold insN
                rw [i_ui, if_neg (by omega), n2 k1]
                by_cases q1 : k1 = k
                · rw [if_pos q1, if_neg (by omega), if_pos q1]
                · rw [if_neg q1]
                  rw [e2 k1 (by omega) q1]
                  by_cases q2 : k1 < k
                  · rw [if_pos q2, if_pos q2]
                  · rw [if_neg q2, if_neg q2, if_neg q1]), (fun r k1 z y => by
                have y : k1 < s_told s + 1 := y
                show _ = nI (insN (s_cn s r) k 0 k1)
                unfold insN
                rw [i_ui, if_neg (by omega), n3 r k1 z (by omega)]
                by_cases q1 : k1 = k
                · rw [if_pos ⟨q1, z⟩, if_neg (by omega), if_pos q1]; rfl
                · rw [if_neg (by omega)]
                  rw [e3 r k1 z (by omega) q1]
                  by_cases q2 : k1 < k
                  · rw [if_pos q2, if_pos q2]
                  · rw [if_neg q2, if_neg q2, if_neg q1]), ((by rw [i_ui, if_neg (by omega)]; exact (hi' _ (by unfold inM; omega) _).trans (pr_things (s := s) P))), ((by rw [i_ui, if_neg (by omega)]; exact (hi' _ (by unfold inM; omega) _).trans (pr_lkr (s := s) P))), (fun k z => (by rw [i_ui, if_neg (by omega)]; exact (hi' _ (by unfold inM; omega) _).trans (pr_rt (s := s) P k z))), (fun k z => (by rw [i_ui, if_neg (by omega)]; exact (hi' _ (by unfold inM; omega) _).trans (pr_hr (s := s) P k z))), (fun t k z y => (by rw [i_ui, if_neg (by omega)]; exact (hi' _ (by unfold inM; omega) _).trans (pr_bd (s := s) P t k z y))), (fun t k z y => (by rw [i_ui, if_neg (by omega)]; exact (hi' _ (by unfold inM; omega) _).trans (pr_pl (s := s) P t k z y))), (fun r k1 z y => by
                have y : k1 < s_told s + 1 := y
                show _ = nI (insN (s_ld s r) k 0 k1)
                unfold insN
                rw [i_ui, if_neg (by omega), n9 r k1 z (by omega)]
                by_cases q1 : k1 = k
                · rw [if_pos ⟨q1, z⟩, if_neg (by omega), if_pos q1]; rfl
                · rw [if_neg (by omega)]
                  rw [e9 r k1 z (by omega) q1]
                  by_cases q2 : k1 < k
                  · rw [if_pos q2, if_pos q2]
                  · rw [if_neg q2, if_neg q2, if_neg q1]), ((by rw [i_ui, if_neg (by omega)]; exact (hi' _ (by unfold inM; omega) _).trans (pr_lks (s := s) P))), (fun k z => (by rw [i_ui, if_neg (by omega)]; exact (hi' _ (by unfold inM; omega) _).trans (pr_gl (s := s) P k z))), (fun k z => (by rw [i_ui, if_neg (by omega)]; exact (hi' _ (by unfold inM; omega) _).trans (pr_gc (s := s) P k z))), (fun k z => (by rw [i_ui, if_neg (by omega)]; exact (hi' _ (by unfold inM; omega) _).trans (pr_gh (s := s) P k z))), (fun k z => (hj' _ (by unfold inM; omega) _).trans (pr_gt (s := s) P k z)), ((by rw [i_ui, if_neg (by omega)]; exact (hi' _ (by unfold inM; omega) _).trans (pr_seen (s := s) P))), ((hj' _ (by unfold inM; omega) _).trans (pr_ab (s := s) P)), ((hj' _ (by unfold inM; omega) _).trans (pr_bl (s := s) P))⟩
            have x1 : hp_fr (inR m) h (hp_ui h2 m 1 (nI (s_told s + 1))) := fr_tr (fr_mono hfr (fun a ha => by unfold inM at ha; exact ⟨by omega, by omega⟩)) (fr_ui ⟨by omega, by omega⟩)
            refine k_iload_n rfl rfl ?_
            refine k_iret rfl rfl (Nat.le_refl _) (Nat.le_refl _) ?_
            rw [ed] at hQ
            exact hQ _ x1 P1
          · exact absurd c69 (by omega)
        | succ q ih =>
          intro i h2 hi hF2 hr2 n1 n2 n3 n9
          have S2 := sr_fr S1 hF2 (by rw [hr2])
          refine k_iload rfl rfl ?_
          refine k_iconst (v := nI 4) rfl (by decide) ?_
          refine kn_ge rfl (by omega) (by omega) (fun c69 => ?_) (fun c69 => ?_)
          · exact absurd c69 (by omega)
          · refine k_aload_n rfl rfl ?_
            refine k_getR rfl rfl (sr_o S2) (sr_count S2) ?_
            refine k_bipush (v := nI 40) rfl (by decide) ?_
            refine k_iload rfl rfl ?_
            refine k_imul rfl ?_
            refine k_iload_n rfl rfl ?_
            refine k_iadd rfl ?_
            refine k_iconst (v := nI 0) rfl (by decide) ?_
            refine k_iS rfl (sr_a3 S2) (ix40 i k) (by omega) (by decide) ?_
            refine k_aload_n rfl rfl ?_
            refine k_getR rfl rfl (sr_o S2) (sr_looked S2) ?_
            refine k_bipush (v := nI 40) rfl (by decide) ?_
            refine k_iload rfl rfl ?_
            refine k_imul rfl ?_
            refine k_iload_n rfl rfl ?_
            refine k_iadd rfl ?_
            refine k_iconst (v := nI 0) rfl (by decide) ?_
            refine k_iS rfl (sr_a9 S2) (ix40 i k) (by omega) (by decide) ?_
            refine k_incN4 rfl rfl ?_
            refine k_goto rfl ?_
            refine ih (i + 1) _ (by omega) (fr_tr hF2 (fr_tr (fr_ui (Or.inr (Or.inr (Or.inl rfl)))) (fr_ui (Or.inr (Or.inr (Or.inr rfl)))))) hr2 (fun j => ?_) (fun j => ?_) ?_ ?_
            · rw [i_ui, if_neg (by omega), i_ui, if_neg (by omega)]; exact n1 j
            · rw [i_ui, if_neg (by omega), i_ui, if_neg (by omega)]; exact n2 j
            · exact (fun r k1 hr4 hk4 => by
              rw [i_ui, if_neg (by omega), i_ui]
              by_cases e : k1 = k ∧ r = i
              · rw [if_pos ⟨rfl, by omega⟩, if_pos (by omega)]; rfl
              · rw [if_neg (by omega), n3 r k1 hr4 hk4]
                by_cases e5 : k1 = k ∧ r < i
                · rw [if_pos e5, if_pos (by omega)]
                · rw [if_neg e5, if_neg (by omega)])
            · exact (fun r k1 hr4 hk4 => by
              rw [i_ui]
              by_cases e : k1 = k ∧ r = i
              · rw [if_pos ⟨rfl, by omega⟩, if_pos (by omega)]; rfl
              · rw [if_neg (by omega), i_ui, if_neg (by omega), n9 r k1 hr4 hk4]
                by_cases e5 : k1 = k ∧ r < i
                · rw [if_pos e5, if_pos (by omega)]
                · rw [if_neg e5, if_neg (by omega)])
      intro k
      induction k with
      | zero =>
        intro h1 hk hF hr ed e1 e2 e3 e9
        refine k_iload_n rfl rfl ?_
        refine k_if_le rfl (fun c19 => ?_) (fun c19 => ?_)
        · exact J 0 h1 hk hF hr ed e1 e2 e3 e9
        · exact absurd (show nI 0 ≤ 0 by decide) c19
      | succ k ih =>
        intro h1 hk hF hr ed e1 e2 e3 e9
        have S1 := sr_fr S hF (by rw [hr])
        have hnk := v_num I k (by omega)
        simp only [dnF] at ed
        refine k_iload_n rfl rfl ?_
        refine k_if_le rfl (fun c19 => ?_) (fun c19 => ?_)
        · exact absurd ((nI_leI (b := 0) (by omega) (by decide)).mp c19) (by omega)
        · refine k_aload_n rfl rfl ?_
          refine k_getR rfl rfl (sr_o S1) (sr_cell S1) ?_
          refine k_iload_n rfl rfl ?_
          refine k_iconst (v := 1) rfl (by decide) ?_
          refine k_isub rfl ?_
          rw [nI_pred]
          refine k_iA (x := nI (s_num s k)) rfl (sr_a1 S1) rfl (by omega) (by decide) (by rw [e1 k (by omega) (by omega), if_pos (by omega)]) ?_
          refine k_iload_n rfl rfl ?_
          refine kn_le rfl (by omega) (by omega) (fun c31 => ?_) (fun c31 => ?_)
          · rw [if_neg (by omega)] at ed
            exact J (k + 1) h1 hk hF hr ed e1 e2 e3 e9
          · rw [if_pos c31] at ed
            refine k_aload_n rfl rfl ?_
            refine k_iload_n rfl rfl ?_
            refine k_iconst (v := 1) rfl (by decide) ?_
            refine k_isub rfl ?_
            rw [nI_pred]
            refine k_iload_n rfl rfl ?_
            refine k_cV2 rfl cw_R_move wd_463 (sr_o S1) rfl (by decide) (Nat.le_of_ble_eq_true rfl) ?_
            refine c_R_move S1 (by omega) (by omega) (by omega) (fun h2 x2 r2 m1 m2 m3 m9 => ?_)
            refine k_decN3 rfl rfl ?_
            refine k_goto rfl ?_
            refine ih h2 (by omega) (fr_tr hF x2) (r2.trans hr) ed ?_ ?_ ?_ ?_
            · intro k1 a b
              have y := m1 k1
              rw [y]
              by_cases q : k1 = k + 1
              · rw [if_pos q]
                rw [e1 k (by omega) (by omega), if_pos (by omega), if_neg (by omega)]
                congr 2
                omega
              · rw [if_neg q]
                rw [e1 k1 a q]
                by_cases q2 : k1 < k
                · rw [if_pos (by omega), if_pos q2]
                · rw [if_neg (by omega), if_neg q2]
            · intro k1 a b
              have y := m2 k1
              rw [y]
              by_cases q : k1 = k + 1
              · rw [if_pos q]
                rw [e2 k (by omega) (by omega), if_pos (by omega), if_neg (by omega)]
                congr 2
                omega
              · rw [if_neg q]
                rw [e2 k1 a q]
                by_cases q2 : k1 < k
                · rw [if_pos (by omega), if_pos q2]
                · rw [if_neg (by omega), if_neg q2]
            · intro r k1 z a b
              have y := m3 r k1 z (by omega)
              rw [y]
              by_cases q : k1 = k + 1
              · rw [if_pos (by omega)]
                rw [e3 r k z (by omega) (by omega), if_pos (by omega), if_neg (by omega)]
                congr 2
                omega
              · rw [if_neg (by omega)]
                rw [e3 r k1 z a q]
                by_cases q2 : k1 < k
                · rw [if_pos (by omega), if_pos q2]
                · rw [if_neg (by omega), if_neg q2]
            · intro r k1 z a b
              have y := m9 r k1 z (by omega)
              rw [y]
              by_cases q : k1 = k + 1
              · rw [if_pos (by omega)]
                rw [e9 r k z (by omega) (by omega), if_pos (by omega), if_neg (by omega)]
                congr 2
                omega
              · rw [if_neg (by omega)]
                rw [e9 r k1 z a q]
                by_cases q2 : k1 < k
                · rw [if_pos (by omega), if_pos q2]
                · rw [if_neg (by omega), if_neg q2]
    · exact absurd rfl c8
end
section
def cnU (s : St) (t k v : Nat) : Nat → Nat → Nat := fun t1 k1 => if t1 = t ∧ k1 = k then v else s_cn s t1 k1
def cuS (s : St) (t c : Int32) (n : Int64) : Bool × St := if t < 0 ∨ nI (s_things s) ≤ t ∨ isc (nI (s_cells s)) c = false ∨ s_seen s ≠ none ∨ n < 0 ∨ 1000 < n ∨ (plS s c = none ∧ s_told s = 40) then (false, s) else (true, zeroP (w_cn (tlS s c).2 (cnU (tlS s c).2 t.toNatClampNeg (tlS s c).1 (LN n))))
def arS (s : St) (c : Int32) (n : Int64) : Bool × St := if isc (nI (s_cells s)) c = false ∨ 0 < s_lks s ∨ n < 1 ∨ 720 < n ∨ ¬ 720 % LN n = 0 ∨ (plS s c = none ∧ s_told s = 40) then (false, s) else (true, zeroP (w_ar (tlS s c).2 (va_up (s_ar (tlS s c).2) (tlS s c).1 (LN n))))
theorem tlS_told {s : St} {c : Int32} (I : Inv s) (h : ¬ (plS s c = none ∧ s_told s = 40)) : (tlS s c).1 < s_told (tlS s c).2 ∧ s_told (tlS s c).2 ≤ 40 := by
  have bT := v_told I
  unfold tlS
  cases hp : plS s c with
  | some k => exact ⟨plS_lt hp, bT⟩
  | none =>
    have h1 := dnF_le (s_num s) c.toNatClampNeg (s_told s)
    have h2 : s_told s ≠ 40 := fun z => h ⟨hp, z⟩
    show dnF _ _ _ < s_told s + 1 ∧ s_told s + 1 ≤ 40
    omega
theorem tlS_room {s : St} {c : Int32} (I : Inv s) (h : ¬ (plS s c = none ∧ s_told s = 40)) : plS s c ≠ none ∨ s_told s < 40 := by
  have bT := v_told I
  by_cases e : plS s c = none
  · right
    have : s_told s ≠ 40 := fun z => h ⟨e, z⟩
    omega
  · exact Or.inl e
theorem lN720 : (720 : Int64) = lN 720 := by decide +kernel
theorem c_R_countsOf {g : Gx} {h : Hp} {m d : Nat} {s : St} {Q : Option Value → Hp → Prop} (P : PR g h m s) (I : Inv s) (t c : Int32) (n : Int64) (hQ : ∀ h1, hp_fr (inR m) h h1 → PR g h1 m (cuS s t c n).2 → Q (some (.int (bI (cuS s t c n).1))) h1) : Ct g M_R_countsOf (d + 2) 0 0 [.ref m, .int t, .int c, .long n] h Q := by
  have S := pr_S P
  have bT := v_told I
  have bL := v_lkr I
  refine ct_of ok_R_countsOf (by decide) (Nat.le_of_ble_eq_true rfl) [some (.ref m), some (.int t), some (.int c), some (.long n), none, none] rfl rfl ?_
  have bt := v_things I
  have hcb := v_cells I
  unfold cuS at hQ
  have J : ¬ (plS s c = none ∧ s_told s = 40) → ¬ t < 0 → ¬ nI (s_things s) ≤ t → isc (nI (s_cells s)) c = true → ¬ s_seen s ≠ none → ¬ n < 0 → ¬ (1000 : Int64) < n → Om g M_R_countsOf (d + 2) Q h 62 [some (.ref m), some (.int t), some (.int c), some (.long n), none, none] [] := by
    intro hno c1 c9 hcc hse c30 c38
    rw [if_neg (by
      intro z
      rcases z with z | z | z | z | z | z | z
      · exact c1 z
      · exact c9 z
      · rw [hcc] at z; cases z
      · exact hse z
      · exact c30 z
      · exact c38 z
      · exact hno z)] at hQ
    obtain ⟨t0, ht0, et⟩ := nI_of c1
    have ht4 : t0 < s_things s := by rw [et] at c9; exact Nat.not_le.mp (fun z => c9 (nI_le z ht0))
    have etl : t.toNatClampNeg = t0 := by rw [et, nI_clamp ht0]
    rw [etl] at hQ
    obtain ⟨en, bn⟩ := LN_of c30
    obtain ⟨hk2, ht2⟩ := tlS_told I hno
    simp only at hQ
    refine k_aload_n rfl rfl ?_
    refine k_iload_n rfl rfl ?_
    refine k_cV1 rfl cw_R_tell wd_459 (sr_o S) rfl (by decide) (Nat.le_of_ble_eq_true rfl) ?_
    refine c_R_tell P I c hcc (tlS_room I hno) (fun h2 x2 P2 => ?_)
    refine k_ist5 rfl rfl ?_
    have S2 := pr_S P2
    generalize (tlS s c).1 = k2 at hQ hk2 ⊢
    generalize (tlS s c).2 = s2 at hQ hk2 ht2 P2
    refine k_aload_n rfl rfl ?_
    refine k_getR rfl rfl (sr_o S2) (sr_count S2) ?_
    refine k_bipush (v := nI 40) rfl (by decide) ?_
    refine k_iload_n rfl rfl ?_
    refine k_imul rfl ?_
    refine k_iload rfl rfl ?_
    refine k_iadd rfl ?_
    refine k_lload_n rfl rfl ?_
    refine k_l2i rfl ?_
    rw [show n.toInt32 = nI (LN n) from by rw [en, lN_i, ← en]]
    refine k_iS rfl (sr_a3 S2) (j := 40 * t0 + k2) (by rw [et]; exact ix40 t0 k2) (by omega) (by decide) ?_
    refine k_aload_n rfl rfl ?_
    have P3 : PR g (hp_ui h2 (m + 3) (40 * t0 + k2) (nI (LN n))) m (w_cn s2 (cnU s2 t0 k2 (LN n))) := ⟨S2, ((by simp only [i_ui, j_ui, i_uj, j_uj]; (repeat rw [if_neg (by omega)]); exact pr_cells (s := s2) P2)), ((by simp only [i_ui, j_ui, i_uj, j_uj]; (repeat rw [if_neg (by omega)]); exact pr_told (s := s2) P2)), (fun k z => (by simp only [i_ui, j_ui, i_uj, j_uj]; (repeat rw [if_neg (by omega)]); exact pr_num (s := s2) P2 k z)), (fun k z => (by simp only [i_ui, j_ui, i_uj, j_uj]; (repeat rw [if_neg (by omega)]); exact pr_ar (s := s2) P2 k z)), (fun t1 k1 z y => by
        show _ = nI (cnU s2 t0 k2 (LN n) t1 k1)
        unfold cnU
        have y : k1 < s_told s2 := y
        rw [i_ui]
        by_cases e : t1 = t0 ∧ k1 = k2
        · rw [if_pos ⟨rfl, by omega⟩, if_pos e]
        · rw [if_neg (by omega), if_neg e]
          exact pr_cn P2 t1 k1 z y), ((by simp only [i_ui, j_ui, i_uj, j_uj]; (repeat rw [if_neg (by omega)]); exact pr_things (s := s2) P2)), ((by simp only [i_ui, j_ui, i_uj, j_uj]; (repeat rw [if_neg (by omega)]); exact pr_lkr (s := s2) P2)), (fun k z => (by simp only [i_ui, j_ui, i_uj, j_uj]; (repeat rw [if_neg (by omega)]); exact pr_rt (s := s2) P2 k z)), (fun k z => (by simp only [i_ui, j_ui, i_uj, j_uj]; (repeat rw [if_neg (by omega)]); exact pr_hr (s := s2) P2 k z)), (fun t k z y => (by simp only [i_ui, j_ui, i_uj, j_uj]; (repeat rw [if_neg (by omega)]); exact pr_bd (s := s2) P2 t k z y)), (fun t k z y => (by simp only [i_ui, j_ui, i_uj, j_uj]; (repeat rw [if_neg (by omega)]); exact pr_pl (s := s2) P2 t k z y)), (fun t k z y => (by simp only [i_ui, j_ui, i_uj, j_uj]; (repeat rw [if_neg (by omega)]); exact pr_ld (s := s2) P2 t k z y)), ((by simp only [i_ui, j_ui, i_uj, j_uj]; (repeat rw [if_neg (by omega)]); exact pr_lks (s := s2) P2)), (fun k z => (by simp only [i_ui, j_ui, i_uj, j_uj]; (repeat rw [if_neg (by omega)]); exact pr_gl (s := s2) P2 k z)), (fun k z => (by simp only [i_ui, j_ui, i_uj, j_uj]; (repeat rw [if_neg (by omega)]); exact pr_gc (s := s2) P2 k z)), (fun k z => (by simp only [i_ui, j_ui, i_uj, j_uj]; (repeat rw [if_neg (by omega)]); exact pr_gh (s := s2) P2 k z)), (fun k z => (by simp only [i_ui, j_ui, i_uj, j_uj]; (repeat rw [if_neg (by omega)]); exact pr_gt (s := s2) P2 k z)), ((by simp only [i_ui, j_ui, i_uj, j_uj]; (repeat rw [if_neg (by omega)]); exact pr_seen (s := s2) P2)), ((by simp only [i_ui, j_ui, i_uj, j_uj]; (repeat rw [if_neg (by omega)]); exact pr_ab (s := s2) P2)), ((by simp only [i_ui, j_ui, i_uj, j_uj]; (repeat rw [if_neg (by omega)]); exact pr_bl (s := s2) P2))⟩
    have x3 : hp_fr (inR m) h (hp_ui h2 (m + 3) (40 * t0 + k2) (nI (LN n))) := fr_tr x2 (fr_ui ⟨by omega, by omega⟩)
    refine k_cV0 rfl cw_R_changed wd_467 (sr_o S2) rfl (by decide) (Nat.le_of_ble_eq_true rfl) ?_
    refine c_R_changed P3 (fun h4 x4 P4 => ?_)
    refine k_iconst (v := nI 1) rfl (by decide) ?_
    refine k_zret rfl rfl (by decide) (Nat.le_refl _) (Nat.le_refl _) ?_
    exact hQ h4 (fr_tr x3 x4) P4
  refine k_iload_n rfl rfl ?_
  refine k_if_lt rfl (fun c1 => ?_) (fun c1 => ?_)
  · refine k_iconst (v := nI 0) rfl (by decide) ?_
    refine k_zret rfl rfl (by decide) (Nat.le_refl _) (Nat.le_refl _) ?_
    rw [if_pos (Or.inl (c1))] at hQ; exact hQ h fr_rf P
  · refine k_iload_n rfl rfl ?_
    refine k_aload_n rfl rfl ?_
    refine k_gI rfl rfl (sr_o S) (pr_things P) ?_
    refine k_icmp_ge rfl (fun c9 => ?_) (fun c9 => ?_)
    · refine k_iconst (v := nI 0) rfl (by decide) ?_
      refine k_zret rfl rfl (by decide) (Nat.le_refl _) (Nat.le_refl _) ?_
      rw [if_pos (Or.inr (Or.inl (c9)))] at hQ; exact hQ h fr_rf P
    · refine k_aload_n rfl rfl ?_
      refine k_iload_n rfl rfl ?_
      refine k_cV1 rfl cw_R_isCell wd_450 (sr_o S) rfl (by decide) (Nat.le_of_ble_eq_true rfl) ?_
      refine c_R_isCell P I c ?_
      refine kb_eq rfl (fun c17 => ?_) (fun c17 => ?_)
      · refine k_iconst (v := nI 0) rfl (by decide) ?_
        refine k_zret rfl rfl (by decide) (Nat.le_refl _) (Nat.le_refl _) ?_
        rw [if_pos (Or.inr (Or.inr (Or.inl (c17))))] at hQ; exact hQ h fr_rf P
      · refine k_aload_n rfl rfl ?_
        refine k_gI rfl rfl (sr_o S) (pr_seen P) ?_
        refine k_iconst (v := -1) rfl (by decide) ?_
        refine k_icmp_ne rfl (fun c25 => ?_) (fun c25 => ?_)
        · have hse : s_seen s ≠ none := fun z => c25 (by rw [z]; rfl)
          refine k_iconst (v := nI 0) rfl (by decide) ?_
          refine k_zret rfl rfl (by decide) (Nat.le_refl _) (Nat.le_refl _) ?_
          rw [if_pos (Or.inr (Or.inr (Or.inr (Or.inl (hse)))))] at hQ; exact hQ h fr_rf P
        · have hse : ¬ s_seen s ≠ none := by
            cases hs : s_seen s with
            | none => simp
            | some q => rw [hs] at c25; exact absurd c25 (nI_m1 (by have := v_seen I q hs; omega))
          refine k_lload_n rfl rfl ?_
          refine k_lconst (v := 0) rfl (by decide) ?_
          refine kl_lt rfl rfl (fun c30 => ?_) (fun c30 => ?_)
          · refine k_iconst (v := nI 0) rfl (by decide) ?_
            refine k_zret rfl rfl (by decide) (Nat.le_refl _) (Nat.le_refl _) ?_
            rw [if_pos (Or.inr (Or.inr (Or.inr (Or.inr (Or.inl (c30))))))] at hQ; exact hQ h fr_rf P
          · refine k_lload_n rfl rfl ?_
            refine k_ldc2 rfl wd_454 ?_
            refine kl_gt rfl rfl (fun c38 => ?_) (fun c38 => ?_)
            · refine k_iconst (v := nI 0) rfl (by decide) ?_
              refine k_zret rfl rfl (by decide) (Nat.le_refl _) (Nat.le_refl _) ?_
              rw [if_pos (Or.inr (Or.inr (Or.inr (Or.inr (Or.inr (Or.inl (c38)))))))] at hQ; exact hQ h fr_rf P
            · refine k_aload_n rfl rfl ?_
              refine k_iload_n rfl rfl ?_
              refine k_cV1 rfl cw_R_place wd_455 (sr_o S) rfl (by decide) (Nat.le_of_ble_eq_true rfl) ?_
              refine c_R_place P I c ?_
              refine k_iconst (v := -1) rfl (by decide) ?_
              refine k_icmp_ne rfl (fun c48 => ?_) (fun c48 => ?_)
              · have hno : ¬ (plS s c = none ∧ s_told s = 40) := fun z => c48 (by rw [z.1]; rfl)
                exact J hno c1 c9 c17 hse c30 c38
              · have hpn : plS s c = none := by
                  cases hp : plS s c with
                  | none => rfl
                  | some k => rw [hp] at c48; exact absurd c48 (nI_m1 (by have := plS_lt hp; omega))
                refine k_aload_n rfl rfl ?_
                refine k_gI rfl rfl (sr_o S) (pr_told P) ?_
                refine k_bipush (v := nI 40) rfl (by decide) ?_
                refine kn_ne rfl (by omega) (by omega) (fun c57 => ?_) (fun c57 => ?_)
                · have hno : ¬ (plS s c = none ∧ s_told s = 40) := fun z => c57 z.2
                  exact J hno c1 c9 c17 hse c30 c38
                · refine k_iconst (v := nI 0) rfl (by decide) ?_
                  refine k_zret rfl rfl (by decide) (Nat.le_refl _) (Nat.le_refl _) ?_
                  rw [if_pos (Or.inr (Or.inr (Or.inr (Or.inr (Or.inr (Or.inr ((⟨hpn, c57⟩))))))))] at hQ; exact hQ h fr_rf P
theorem c_R_counts {g : Gx} {h : Hp} {m d : Nat} {s : St} {Q : Option Value → Hp → Prop} (P : PR g h m s) (I : Inv s) (c : Int32) (n : Int64) (hQ : ∀ h1, hp_fr (inR m) h h1 → PR g h1 m (cuS s 0 c n).2 → Q (some (.int (bI (cuS s 0 c n).1))) h1) : Ct g M_R_counts (d + 3) 0 0 [.ref m, .int c, .long n] h Q := by
  have S := pr_S P
  have bT := v_told I
  have bL := v_lkr I
  refine ct_of ok_R_counts (by decide) (Nat.le_of_ble_eq_true rfl) [some (.ref m), some (.int c), some (.long n), none] rfl rfl ?_
  refine k_aload_n rfl rfl ?_
  refine k_iconst (v := 0) rfl (by decide) ?_
  refine k_iload_n rfl rfl ?_
  refine k_lload_n rfl rfl ?_
  refine k_cV3 rfl cw_R_countsOf wd_446 (sr_o S) rfl (by decide) (Nat.le_of_ble_eq_true rfl) ?_
  refine c_R_countsOf P I 0 c n (fun h2 x2 P2 => ?_)
  refine k_zret rfl rfl (bI_nar _) (Nat.le_refl _) (Nat.le_refl _) ?_
  exact hQ h2 x2 P2
theorem c_R_area {g : Gx} {h : Hp} {m d : Nat} {s : St} {Q : Option Value → Hp → Prop} (P : PR g h m s) (I : Inv s) (c : Int32) (n : Int64) (hQ : ∀ h1, hp_fr (inR m) h h1 → PR g h1 m (arS s c n).2 → Q (some (.int (bI (arS s c n).1))) h1) : Ct g M_R_area (d + 2) 0 0 [.ref m, .int c, .long n] h Q := by
  have S := pr_S P
  have bT := v_told I
  have bL := v_lkr I
  refine ct_of ok_R_area (by decide) (Nat.le_of_ble_eq_true rfl) [some (.ref m), some (.int c), some (.long n), none, none] rfl rfl ?_
  have bK := v_lks I
  have hcb := v_cells I
  unfold arS at hQ
  have J : ¬ (plS s c = none ∧ s_told s = 40) → isc (nI (s_cells s)) c = true → ¬ 0 < nI (s_lks s) → ¬ n < 1 → ¬ (720 : Int64) < n → 720 % LN n = 0 → Om g M_R_area (d + 2) Q h 59 [some (.ref m), some (.int c), some (.long n), none, none] [] := by
    intro hno hcc c12 c17 c25 c35
    rw [if_neg (by
      intro z
      rcases z with z | z | z | z | z | z
      · rw [hcc] at z; cases z
      · exact c12 ((nI_0lt (by omega)).mpr z)
      · exact c17 z
      · exact c25 z
      · exact z c35
      · exact hno z)] at hQ
    obtain ⟨en, bn⟩ := LN_of (x := n) (fun z => c17 (Int64.lt_trans z (by decide)))
    obtain ⟨hk2, ht2⟩ := tlS_told I hno
    simp only at hQ
    refine k_aload_n rfl rfl ?_
    refine k_iload_n rfl rfl ?_
    refine k_cV1 rfl cw_R_tell wd_459 (sr_o S) rfl (by decide) (Nat.le_of_ble_eq_true rfl) ?_
    refine c_R_tell P I c hcc (tlS_room I hno) (fun h2 x2 P2 => ?_)
    refine k_ist4 rfl rfl ?_
    have S2 := pr_S P2
    generalize (tlS s c).1 = k2 at hQ hk2 ⊢
    generalize (tlS s c).2 = s2 at hQ hk2 ht2 P2
    refine k_aload_n rfl rfl ?_
    refine k_getR rfl rfl (sr_o S2) (sr_areas S2) ?_
    refine k_iload rfl rfl ?_
    refine k_lload_n rfl rfl ?_
    refine k_l2i rfl ?_
    rw [show n.toInt32 = nI (LN n) from by rw [en, lN_i, ← en]]
    refine k_iS rfl (sr_a2 S2) rfl (by omega) (by decide) ?_
    refine k_aload_n rfl rfl ?_
    have P3 : PR g (hp_ui h2 (m + 2) k2 (nI (LN n))) m (w_ar s2 (va_up (s_ar s2) k2 (LN n))) := ⟨S2, ((by simp only [i_ui, j_ui, i_uj, j_uj]; (repeat rw [if_neg (by omega)]); exact pr_cells (s := s2) P2)), ((by simp only [i_ui, j_ui, i_uj, j_uj]; (repeat rw [if_neg (by omega)]); exact pr_told (s := s2) P2)), (fun k z => (by simp only [i_ui, j_ui, i_uj, j_uj]; (repeat rw [if_neg (by omega)]); exact pr_num (s := s2) P2 k z)), (fun k1 y => by
        show _ = nI (va_up (s_ar s2) k2 (LN n) k1)
        have y : k1 < s_told s2 := y
        rw [i_ui]
        by_cases e : k1 = k2
        · rw [if_pos ⟨rfl, e⟩, e, va_up_self]
        · rw [if_neg (by omega), va_up_ne _ _ e]
          exact pr_ar P2 k1 y), (fun t k z y => (by simp only [i_ui, j_ui, i_uj, j_uj]; (repeat rw [if_neg (by omega)]); exact pr_cn (s := s2) P2 t k z y)), ((by simp only [i_ui, j_ui, i_uj, j_uj]; (repeat rw [if_neg (by omega)]); exact pr_things (s := s2) P2)), ((by simp only [i_ui, j_ui, i_uj, j_uj]; (repeat rw [if_neg (by omega)]); exact pr_lkr (s := s2) P2)), (fun k z => (by simp only [i_ui, j_ui, i_uj, j_uj]; (repeat rw [if_neg (by omega)]); exact pr_rt (s := s2) P2 k z)), (fun k z => (by simp only [i_ui, j_ui, i_uj, j_uj]; (repeat rw [if_neg (by omega)]); exact pr_hr (s := s2) P2 k z)), (fun t k z y => (by simp only [i_ui, j_ui, i_uj, j_uj]; (repeat rw [if_neg (by omega)]); exact pr_bd (s := s2) P2 t k z y)), (fun t k z y => (by simp only [i_ui, j_ui, i_uj, j_uj]; (repeat rw [if_neg (by omega)]); exact pr_pl (s := s2) P2 t k z y)), (fun t k z y => (by simp only [i_ui, j_ui, i_uj, j_uj]; (repeat rw [if_neg (by omega)]); exact pr_ld (s := s2) P2 t k z y)), ((by simp only [i_ui, j_ui, i_uj, j_uj]; (repeat rw [if_neg (by omega)]); exact pr_lks (s := s2) P2)), (fun k z => (by simp only [i_ui, j_ui, i_uj, j_uj]; (repeat rw [if_neg (by omega)]); exact pr_gl (s := s2) P2 k z)), (fun k z => (by simp only [i_ui, j_ui, i_uj, j_uj]; (repeat rw [if_neg (by omega)]); exact pr_gc (s := s2) P2 k z)), (fun k z => (by simp only [i_ui, j_ui, i_uj, j_uj]; (repeat rw [if_neg (by omega)]); exact pr_gh (s := s2) P2 k z)), (fun k z => (by simp only [i_ui, j_ui, i_uj, j_uj]; (repeat rw [if_neg (by omega)]); exact pr_gt (s := s2) P2 k z)), ((by simp only [i_ui, j_ui, i_uj, j_uj]; (repeat rw [if_neg (by omega)]); exact pr_seen (s := s2) P2)), ((by simp only [i_ui, j_ui, i_uj, j_uj]; (repeat rw [if_neg (by omega)]); exact pr_ab (s := s2) P2)), ((by simp only [i_ui, j_ui, i_uj, j_uj]; (repeat rw [if_neg (by omega)]); exact pr_bl (s := s2) P2))⟩
    have x3 : hp_fr (inR m) h (hp_ui h2 (m + 2) k2 (nI (LN n))) := fr_tr x2 (fr_ui ⟨by omega, by omega⟩)
    refine k_cV0 rfl cw_R_changed wd_467 (sr_o S2) rfl (by decide) (Nat.le_of_ble_eq_true rfl) ?_
    refine c_R_changed P3 (fun h4 x4 P4 => ?_)
    refine k_iconst (v := nI 1) rfl (by decide) ?_
    refine k_zret rfl rfl (by decide) (Nat.le_refl _) (Nat.le_refl _) ?_
    exact hQ h4 (fr_tr x3 x4) P4
  refine k_aload_n rfl rfl ?_
  refine k_iload_n rfl rfl ?_
  refine k_cV1 rfl cw_R_isCell wd_450 (sr_o S) rfl (by decide) (Nat.le_of_ble_eq_true rfl) ?_
  refine c_R_isCell P I c ?_
  refine kb_eq rfl (fun c5 => ?_) (fun c5 => ?_)
  · refine k_iconst (v := nI 0) rfl (by decide) ?_
    refine k_zret rfl rfl (by decide) (Nat.le_refl _) (Nat.le_refl _) ?_
    rw [if_pos (Or.inl (c5))] at hQ; exact hQ h fr_rf P
  · refine k_aload_n rfl rfl ?_
    refine k_gI rfl rfl (sr_o S) (pr_lks P) ?_
    refine k_if_gt rfl (fun c12 => ?_) (fun c12 => ?_)
    · refine k_iconst (v := nI 0) rfl (by decide) ?_
      refine k_zret rfl rfl (by decide) (Nat.le_refl _) (Nat.le_refl _) ?_
      rw [if_pos (Or.inr (Or.inl ((nI_0lt (by omega)).mp c12)))] at hQ; exact hQ h fr_rf P
    · refine k_lload_n rfl rfl ?_
      refine k_lconst (v := 1) rfl (by decide) ?_
      refine kl_lt rfl rfl (fun c17 => ?_) (fun c17 => ?_)
      · refine k_iconst (v := nI 0) rfl (by decide) ?_
        refine k_zret rfl rfl (by decide) (Nat.le_refl _) (Nat.le_refl _) ?_
        rw [if_pos (Or.inr (Or.inr (Or.inl (c17))))] at hQ; exact hQ h fr_rf P
      · refine k_lload_n rfl rfl ?_
        refine k_ldc2 rfl wd_497 ?_
        refine kl_gt rfl rfl (fun c25 => ?_) (fun c25 => ?_)
        · refine k_iconst (v := nI 0) rfl (by decide) ?_
          refine k_zret rfl rfl (by decide) (Nat.le_refl _) (Nat.le_refl _) ?_
          rw [if_pos (Or.inr (Or.inr (Or.inr (Or.inl (c25)))))] at hQ; exact hQ h fr_rf P
        · have nn : ¬ n < 0 := fun z => c17 (Int64.lt_trans z (by decide))
          obtain ⟨en, bn⟩ := LN_of nn
          have n1 : 1 ≤ LN n := LN_ge (by decide) nn c17
          have n7 : LN n ≤ 720 := LN_le nn (by decide) c25
          refine k_ldc2 rfl wd_497 ?_
          rw [lN720]
          refine k_lload_n rfl rfl ?_
          rw [show (Value.long n) = Value.long (lN (LN n)) from congrArg _ en]
          refine k_lremN rfl (by decide) (by omega) (by omega) ?_
          refine k_lconst (v := lN 0) rfl (by decide) ?_
          have hml : 720 % LN n < LN n := Nat.mod_lt _ n1
          refine klN_ne rfl rfl (by omega) (by decide) (fun c35 => ?_) (fun c35 => ?_)
          · refine k_iconst (v := nI 0) rfl (by decide) ?_
            refine k_zret rfl rfl (by decide) (Nat.le_refl _) (Nat.le_refl _) ?_
            rw [if_pos (Or.inr (Or.inr (Or.inr (Or.inr (Or.inl (c35))))))] at hQ; exact hQ h fr_rf P
          · refine k_aload_n rfl rfl ?_
            refine k_iload_n rfl rfl ?_
            refine k_cV1 rfl cw_R_place wd_455 (sr_o S) rfl (by decide) (Nat.le_of_ble_eq_true rfl) ?_
            refine c_R_place P I c ?_
            refine k_iconst (v := -1) rfl (by decide) ?_
            refine k_icmp_ne rfl (fun c45 => ?_) (fun c45 => ?_)
            · have hno : ¬ (plS s c = none ∧ s_told s = 40) := fun z => c45 (by rw [z.1]; rfl)
              rw [← en]
              exact J hno c5 c12 c17 c25 c35
            · have hpn : plS s c = none := by
                cases hp : plS s c with
                | none => rfl
                | some k => rw [hp] at c45; exact absurd c45 (nI_m1 (by have := plS_lt hp; omega))
              refine k_aload_n rfl rfl ?_
              refine k_gI rfl rfl (sr_o S) (pr_told P) ?_
              refine k_bipush (v := nI 40) rfl (by decide) ?_
              refine kn_ne rfl (by omega) (by omega) (fun c54 => ?_) (fun c54 => ?_)
              · have hno : ¬ (plS s c = none ∧ s_told s = 40) := fun z => c54 z.2
                rw [← en]
                exact J hno c5 c12 c17 c25 c35
              · refine k_iconst (v := nI 0) rfl (by decide) ?_
                refine k_zret rfl rfl (by decide) (Nat.le_refl _) (Nat.le_refl _) ?_
                rw [if_pos (Or.inr (Or.inr (Or.inr (Or.inr (Or.inr ((⟨hpn, c54⟩)))))))] at hQ; exact hQ h fr_rf P
end
section
theorem msP_pl (s : St) (F : Nat → Nat → Nat) (f : Nat → Nat) (k : Nat) : ∀ l, msP (w_pl s F) f k l = msP s f k l
  | 0 => rfl
  | l + 1 => by
    show msP (w_pl s F) f k l * ms1 s f k l = _
    rw [msP_pl s F f k l]; rfl
theorem wo_pl (s : St) (F G : Nat → Nat → Nat) : ∀ n, wo (w_pl s F) G n = wo s G n
  | 0 => rfl
  | n + 1 => by
    show wo (w_pl s F) G n + wtN s n * (268738560000 - msP (w_pl s F) (fun l => G l n) n 4) = _
    rw [wo_pl s F G n, msP_pl]; rfl
theorem usN_pl (s : St) (F : Nat → Nat → Nat) (l : Nat) : ∀ q, usN (w_pl s F) l q = usN s l q
  | 0 => rfl
  | q + 1 => by
    show usN (w_pl s F) l q + (if s_bd s l q then 0 else 1) = _
    rw [usN_pl s F l q]; rfl
theorem us_pl (s : St) (F : Nat → Nat → Nat) (l : Nat) : us (w_pl s F) l = us s l := usN_pl s F l (s_hr s l)
theorem Inv_pl {s : St} (I : Inv s) {F : Nat → Nat → Nat} (h : ∀ l k, l < 4 → k < 40 → F l k ≤ 100) : Inv (w_pl s F) :=
  ⟨v_told (s := s) I, v_lkr (s := s) I, v_things (s := s) I, v_lks (s := s) I, v_cells (s := s) I, v_num (s := s) I, v_ord (s := s) I, v_ar (s := s) I, v_cn (s := s) I, v_rt (s := s) I, v_hr (s := s) I, h, v_ld (s := s) I, v_log (s := s) I, v_seen (s := s) I, v_ab (s := s) I, v_bl (s := s) I⟩
def bmp (F : Nat → Nat → Nat) (l k : Nat) : Nat → Nat → Nat := fun l1 k1 => if l1 = l ∧ k1 = k then F l1 k1 + 1 else F l1 k1
def scK (s : St) (F : Nat → Nat → Nat) (l : Nat) : Nat → Nat → Option Nat → Nat → Option Nat × Nat
  | 0, _, b, mo => (b, mo)
  | q + 1, k, b, mo => scK s F l q (k + 1) (if mo < wo s (bmp F l k) (s_told s) then some (40 * l + k) else b) (if mo < wo s (bmp F l k) (s_told s) then wo s (bmp F l k) (s_told s) else mo)
def scL (s : St) (F : Nat → Nat → Nat) : Nat → Nat → Option Nat → Nat → Option Nat × Nat
  | 0, _, b, mo => (b, mo)
  | q + 1, l, b, mo => if gv F l (s_told s) < us s l then scL s F q (l + 1) (scK s F l (s_told s) 0 b mo).1 (scK s F l (s_told s) 0 b mo).2 else scL s F q (l + 1) b mo
/-- the place of the hour that finds most, if it finds more -/
def bst (s : St) (F : Nat → Nat → Nat) : Option Nat := (scL s F (s_lkr s) 0 none (wo s F (s_told s))).1
def shF (s : St) : Nat → (Nat → Nat → Nat) → Nat → Nat → Nat
  | 0, F => F
  | q + 1, F => match bst s F with
    | none => F
    | some j => shF s q (bmp F (j / 40) (j % 40))
def shS (s : St) (n : Int32) : Int32 × St := if n < 0 ∨ nI 100 < n then (-1, s) else (nI (szN (w_pl s (shF s n.toNatClampNeg (fun _ _ => 0))) (s_lkr s)), w_pl s (shF s n.toNatClampNeg (fun _ _ => 0)))
/-- a place of the plan -/
def okB (s : St) (b : Option Nat) : Prop := ∀ j, b = some j → ∃ l k, j = 40 * l + k ∧ l < s_lkr s ∧ k < s_told s
theorem bmp_le {F : Nat → Nat → Nat} {B l k : Nat} (h : ∀ l k, F l k ≤ B) : ∀ l1 k1, bmp F l k l1 k1 ≤ B + 1 := by
  intro l1 k1
  have := h l1 k1
  unfold bmp
  split <;> omega
/-- one hour of the plan goes up, or down again -/
theorem PR_bmp {g : Gx} {h : Hp} {m : Nat} {s : St} {F : Nat → Nat → Nat} {l k : Nat} (P : PR g h m (w_pl s F)) (hl : l < 4) (hk : k < 40) : PR g (hp_ui h (m + 7) (40 * l + k) (nI (F l k + 1))) m (w_pl s (bmp F l k)) := by
  refine PR_pl (s := w_pl s F) P (fr_ui rfl) rfl (fun l1 k1 h1 h2 => ?_)
  rw [i_ui]
  unfold bmp
  by_cases e : l1 = l ∧ k1 = k
  · rw [if_pos ⟨rfl, by omega⟩, if_pos e, e.1, e.2]
  · rw [if_neg (by omega), if_neg e]
    exact pr_pl P l1 k1 h1 h2
theorem PR_unb {g : Gx} {h : Hp} {m : Nat} {s : St} {F : Nat → Nat → Nat} {l k : Nat} (P : PR g h m (w_pl s (bmp F l k))) (hl : l < 4) (hk : k < 40) : PR g (hp_ui h (m + 7) (40 * l + k) (nI (F l k))) m (w_pl s F) := by
  refine PR_pl (s := w_pl s (bmp F l k)) P (fr_ui rfl) rfl (fun l1 k1 h1 h2 => ?_)
  rw [i_ui]
  by_cases e : l1 = l ∧ k1 = k
  · rw [if_pos ⟨rfl, by omega⟩, e.1, e.2]
  · rw [if_neg (by omega)]
    have y := pr_pl P l1 k1 h1 h2
    have y2 : s_pl (w_pl s (bmp F l k)) l1 k1 = F l1 k1 := by
      show bmp F l k l1 k1 = _
      unfold bmp
      rw [if_neg e]
    rw [y2] at y
    exact y
theorem c_R_share {g : Gx} {h : Hp} {m d : Nat} {s : St} {Q : Option Value → Hp → Prop} (P : PR g h m s) (I : Inv s) (n : Int32) (hQ : ∀ h1, hp_fr (inR m) h h1 → PR g h1 m (shS s n).2 → Q (some (.int (shS s n).1)) h1) : Ct g M_R_share (d + 2) 0 0 [.ref m, .int n] h Q := by
  have S := pr_S P
  have bT := v_told I
  have bL := v_lkr I
  refine ct_of ok_R_share (by decide) (Nat.le_of_ble_eq_true rfl) [some (.ref m), some (.int n), none, none, none, none, none, none, none, none, none, none, none] rfl rfl ?_
  unfold shS at hQ
  refine k_iload_n rfl rfl ?_
  refine k_if_lt rfl (fun c1 => ?_) (fun c1 => ?_)
  · refine k_iconst (v := -1) rfl (by decide) ?_
    refine k_iret rfl rfl (Nat.le_refl _) (Nat.le_refl _) ?_
    rw [if_pos (Or.inl c1)] at hQ; exact hQ h fr_rf P
  · refine k_iload_n rfl rfl ?_
    refine k_bipush (v := nI 100) rfl (by decide) ?_
    refine k_icmp_le rfl (fun c7 => ?_) (fun c7 => ?_)
    · refine k_aload_n rfl rfl ?_
      obtain ⟨n0, hn0, en⟩ := nI_of c1
      have hn1 : n0 ≤ 100 := by rw [en] at c7; exact (nI_leI hn0 (by decide)).mp c7
      rw [if_neg (fun z => z.elim c1 (fun z => absurd c7 (Int32.not_le.mpr z)))] at hQ
      have enl : n.toNatClampNeg = n0 := by rw [en, nI_clamp hn0]
      rw [enl] at hQ
      clear enl
      subst en
      refine k_cV0 rfl cw_R_changed wd_467 (sr_o S) rfl (by decide) (Nat.le_of_ble_eq_true rfl) ?_
      refine c_R_changed P (fun h2 x2 P2 => ?_)
      refine k_iconst (v := nI 1) rfl (by decide) ?_
      refine k_ist2 rfl rfl ?_
      refine k_iconst (v := nI 0) rfl (by decide) ?_
      refine k_ist3 rfl rfl ?_
      have Jend : ∀ (F : Nat → Nat → Nat) (h1 : Hp) (z2 z3 z4 z6 z8 z9 z10 z11 : Option Value), hp_fr (inR m) h h1 → PR g h1 m (w_pl s F) → (∀ l k, F l k ≤ 100) → shF s n0 (fun _ _ => 0) = F → Om g M_R_share (d + 2) Q h1 218 [some (.ref m), some (.int (nI n0)), z2, z3, z4, none, z6, none, z8, z9, z10, z11, none] [] := by
        intro F h1 z2 z3 z4 z6 z8 z9 z10 z11 x1 P1 hFb eF
        have S1 := pr_S P1
        refine k_aload_n rfl rfl ?_
        refine k_cV0 rfl cw_R_size wd_528 (sr_o S1) rfl (by decide) (Nat.le_of_ble_eq_true rfl) ?_
        refine c_R_size P1 (Inv_pl I (fun l k h1 h2 => by have := hFb l k; omega)) ?_
        refine k_iret rfl rfl (Nat.le_refl _) (Nat.le_refl _) ?_
        subst eF
        exact hQ _ x1 P1
      suffices H : ∀ (q i : Nat) (F : Nat → Nat → Nat) (h1 : Hp) (z4 z6 z8 z9 z10 z11 : Option Value), i + q = n0 → hp_fr (inR m) h h1 → PR g h1 m (w_pl s F) → (∀ l k, F l k ≤ i) → shF s n0 (fun _ _ => 0) = shF s q F → Om g M_R_share (d + 2) Q h1 20 [some (.ref m), some (.int (nI n0)), some (.int (nI 1)), some (.int (nI i)), z4, none, z6, none, z8, z9, z10, z11, none] [] from H n0 0 (fun _ _ => 0) h2 none none none none none none (Nat.zero_add _) x2 P2 (fun _ _ => Nat.zero_le _) rfl
      intro q
      induction q with
      | zero =>
        intro i F h1 z4 z6 z8 z9 z10 z11 hi x1 P1 hFb eF
        have S1 := pr_S P1
        refine k_iload_n rfl rfl ?_
        refine k_iload_n rfl rfl ?_
        refine kn_ge rfl (by omega) (by omega) (fun c22 => ?_) (fun c22 => ?_)
        · exact Jend F h1 _ _ _ _ _ _ _ _ x1 P1 (fun l k => by have := hFb l k; omega) eF
        · exact absurd c22 (by omega)
      | succ q ih =>
        intro i F h1 z4 z6 z8 z9 z10 z11 hi x1 P1 hFb eF
        have S1 := pr_S P1
        have I1 : Inv (w_pl s F) := Inv_pl I (fun l k h1 h2 => by have := hFb l k; omega)
        refine k_iload_n rfl rfl ?_
        refine k_iload_n rfl rfl ?_
        refine kn_ge rfl (by omega) (by omega) (fun c22 => ?_) (fun c22 => ?_)
        · exact absurd c22 (by omega)
        · refine k_iload_n rfl rfl ?_
          refine k_if_eq rfl (fun c26 => ?_) (fun c26 => ?_)
          · exact absurd c26 (by decide)
          · refine k_aload_n rfl rfl ?_
            refine k_aload_n rfl rfl ?_
            refine k_getR rfl rfl (sr_o S1) (sr_plan S1) ?_
            refine k_cV1 rfl cw_R_worth wd_507 (sr_o S1) rfl (by decide) (Nat.le_of_ble_eq_true rfl) ?_
            refine c_R_worth (F := F) P1 I1 (sr_a7 S1) (fun l1 k1 a b => pr_pl P1 l1 k1 (by have : l1 < s_lkr s := a; omega) (by have : k1 < s_told s := b; omega)) (fun l1 k1 a b => by have := hFb l1 k1; omega) ?_
            rw [wo_pl]
            obtain ⟨nw, enw⟩ : ∃ x, x = wo s F (s_told (w_pl s F)) := ⟨_, rfl⟩
            rw [← enw]
            have hnw := wo_le I F (s_told s) (Nat.le_refl _)
            have enw2 : nw = wo s F (s_told s) := enw
            refine k_lst4 rfl rfl ?_
            refine k_lload rfl rfl ?_
            refine k_lst6 rfl rfl ?_
            refine k_iconst (v := -1) rfl (by decide) ?_
            refine k_ist8 rfl rfl ?_
            refine k_iconst (v := nI 0) rfl (by decide) ?_
            refine k_ist9 rfl rfl ?_
            have Jb : ∀ (h1 : Hp) (b : Option Nat) (mo : Nat) (z9 z10 z11 : Option Value), hp_fr (inR m) h h1 → PR g h1 m (w_pl s F) → okB s b → bst s F = b → Om g M_R_share (d + 2) Q h1 185 [some (.ref m), some (.int (nI n0)), some (.int (nI 1)), some (.int (nI i)), some (.long (lN nw)), none, some (.long (lN mo)), none, some (.int (sI b)), z9, z10, z11, none] [] := by
              intro h1 b mo z9 z10 z11 x1 P1 hb e
              have S1 := pr_S P1
              simp only [shF] at eF
              rw [e] at eF
              cases b with
              | none =>
                simp only at eF
                refine k_iload rfl rfl ?_
                refine k_iconst (v := -1) rfl (by decide) ?_
                refine k_icmp_eq rfl (fun c188 => ?_) (fun c188 => ?_)
                · refine k_iconst (v := nI 0) rfl (by decide) ?_
                  refine k_ist2 rfl rfl ?_
                  refine k_iload_n rfl rfl ?_
                  refine k_if_eq rfl (fun c198 => ?_) (fun c198 => ?_)
                  · refine k_incN3 rfl rfl ?_
                    refine k_goto rfl ?_
                    refine k_iload_n rfl rfl ?_
                    refine k_iload_n rfl rfl ?_
                    refine k_icmp_ge rfl (fun c22 => ?_) (fun c22 => ?_)
                    · exact Jend F h1 _ _ _ _ _ _ _ _ x1 P1 (fun l k => by have := hFb l k; omega) eF
                    · refine k_iload_n rfl rfl ?_
                      refine k_if_eq rfl (fun c26 => ?_) (fun c26 => ?_)
                      · exact Jend F h1 _ _ _ _ _ _ _ _ x1 P1 (fun l k => by have := hFb l k; omega) eF
                      · exact absurd rfl c26
                  · exact absurd rfl c198
                · exact absurd rfl c188
              | some j =>
                simp only at eF
                obtain ⟨l, k, ej, hl, hk⟩ := hb j rfl
                subst ej
                rw [show (40 * l + k) / 40 = l by omega, show (40 * l + k) % 40 = k by omega] at eF
                refine k_iload rfl rfl ?_
                refine k_iconst (v := -1) rfl (by decide) ?_
                refine k_icmp_eq rfl (fun c188 => ?_) (fun c188 => ?_)
                · exact absurd c188 (nI_m1 (by omega))
                · refine k_iconst (v := nI 1) rfl (by decide) ?_
                  refine k_goto rfl ?_
                  refine k_ist2 rfl rfl ?_
                  refine k_iload_n rfl rfl ?_
                  refine k_if_eq rfl (fun c198 => ?_) (fun c198 => ?_)
                  · exact absurd c198 (by decide)
                  · refine k_aload_n rfl rfl ?_
                    refine k_getR rfl rfl (sr_o S1) (sr_plan S1) ?_
                    refine k_iload rfl rfl ?_
                    refine k_dup2 rfl rfl rfl ?_
                    refine k_iA (x := nI (F l k)) rfl (sr_a7 S1) (j := 40 * l + k) rfl (by omega) (by decide) (pr_pl P1 l k (by omega) (by omega)) ?_
                    refine k_iconst (v := nI 1) rfl (by decide) ?_
                    refine k_iaddN rfl ?_
                    refine k_iS rfl (sr_a7 S1) (j := 40 * l + k) rfl (by omega) (by decide) ?_
                    have P2 := PR_bmp P1 (l := l) (k := k) (by omega) (by omega)
                    have x2 : hp_fr (inR m) h (hp_ui h1 (m + 7) (40 * l + k) (nI (F l k + 1))) := fr_tr x1 (fr_ui ⟨by omega, by omega⟩)
                    generalize (hp_ui h1 (m + 7) (40 * l + k) (nI (F l k + 1))) = h2 at P2 x2 ⊢
                    refine k_incN3 rfl rfl ?_
                    refine k_goto rfl ?_
                    exact ih (i + 1) (bmp F l k) h2 _ _ _ _ _ _ (by omega) x2 P2 (bmp_le hFb) eF
            suffices Hl : ∀ (ql l : Nat) (b : Option Nat) (mo : Nat) (h1 : Hp) (z10 z11 : Option Value), l + ql = s_lkr s → hp_fr (inR m) h h1 → PR g h1 m (w_pl s F) → okB s b → mo < 2 ^ 62 → bst s F = (scL s F ql l b mo).1 → Om g M_R_share (d + 2) Q h1 49 [some (.ref m), some (.int (nI n0)), some (.int (nI 1)), some (.int (nI i)), some (.long (lN nw)), none, some (.long (lN mo)), none, some (.int (sI b)), some (.int (nI l)), z10, z11, none] [] from Hl _ 0 none nw h1 _ _ (Nat.zero_add _) x1 P1 (fun j e => by cases e) (by omega) (by rw [enw2]; rfl)
            intro ql
            induction ql with
            | zero =>
              intro l b mo h1 z10 z11 hl0 x1 P1 hb hmo eS
              have S1 := pr_S P1
              refine k_iload rfl rfl ?_
              refine k_aload_n rfl rfl ?_
              refine k_gI rfl rfl (sr_o S1) (show hp_i _ m 6 = nI (s_lkr s) from pr_lkr (s := w_pl s F) P1) ?_
              refine kn_ge rfl (by omega) (by omega) (fun c55 => ?_) (fun c55 => ?_)
              · exact Jb h1 b mo _ _ _ x1 P1 hb eS
              · exact absurd c55 (by omega)
            | succ ql ihl =>
              intro l b mo h1 z10 z11 hl0 x1 P1 hb hmo eS
              have S1 := pr_S P1
              refine k_iload rfl rfl ?_
              refine k_aload_n rfl rfl ?_
              refine k_gI rfl rfl (sr_o S1) (show hp_i _ m 6 = nI (s_lkr s) from pr_lkr (s := w_pl s F) P1) ?_
              refine kn_ge rfl (by omega) (by omega) (fun c55 => ?_) (fun c55 => ?_)
              · exact absurd c55 (by omega)
              · refine k_iconst (v := nI 0) rfl (by decide) ?_
                refine k_ist10 rfl rfl ?_
                have hl : l < s_lkr s := by omega
                have hgl : gv F l (s_told s) ≤ s_told s * 100 := gv_le _ (fun k _ => by have := hFb l k; omega)
                have hgm : s_told s * 100 ≤ 4000 := by omega
                have hul : us s l ≤ 24 := Nat.le_trans (usN_le s l _) (v_hr I l hl).2
                have hgb : gv F l (s_told s) < 2 ^ 31 := by omega
                simp only [scL] at eS
                by_cases hg : gv F l (s_told s) < us s l
                · rw [if_pos hg] at eS
                  have Jn : ∀ (h2 : Hp) (b2 : Option Nat) (mo2 : Nat) (z10 z11 : Option Value), hp_fr (inR m) h h2 → PR g h2 m (w_pl s F) → okB s b2 → mo2 < 2 ^ 62 → scK s F l (s_told s) 0 b mo = (b2, mo2) → Om g M_R_share (d + 2) Q h2 179 [some (.ref m), some (.int (nI n0)), some (.int (nI 1)), some (.int (nI i)), some (.long (lN nw)), none, some (.long (lN mo2)), none, some (.int (sI b2)), some (.int (nI l)), z10, z11, none] [] := by
                    intro h2 b2 mo2 z10 z11 x2 P2 hb2 hmo2 e2
                    rw [e2] at eS
                    have e2 := eS
                    refine k_incN9 rfl rfl ?_
                    refine k_goto rfl ?_
                    exact ihl (l + 1) b2 mo2 h2 _ _ (by omega) x2 P2 hb2 hmo2 e2
                  suffices Hk : ∀ (qk k : Nat) (b3 : Option Nat) (mo3 : Nat) (h1 : Hp) (z11 : Option Value), k + qk = s_told s → hp_fr (inR m) h h1 → PR g h1 m (w_pl s F) → okB s b3 → mo3 < 2 ^ 62 → scK s F l (s_told s) 0 b mo = scK s F l qk k b3 mo3 → Om g M_R_share (d + 2) Q h1 61 [some (.ref m), some (.int (nI n0)), some (.int (nI 1)), some (.int (nI i)), some (.long (lN nw)), none, some (.long (lN mo3)), none, some (.int (sI b3)), some (.int (nI l)), some (.int (nI k)), z11, none] [] from Hk _ 0 b mo h1 z11 (Nat.zero_add _) x1 P1 hb hmo rfl
                  intro qk
                  induction qk with
                  | zero =>
                    intro k b mo h1 z11 hk x1 P1 hb hmo eK
                    have S1 := pr_S P1
                    refine k_iload rfl rfl ?_
                    refine k_aload_n rfl rfl ?_
                    refine k_gI rfl rfl (sr_o S1) (show hp_i _ m 1 = nI (s_told s) from pr_told (s := w_pl s F) P1) ?_
                    refine kn_ge rfl (by omega) (by omega) (fun c67 => ?_) (fun c67 => ?_)
                    · exact Jn h1 b mo _ _ x1 P1 hb hmo eK
                    · exact absurd c67 (by omega)
                  | succ qk ihk =>
                    intro k b mo h1 z11 hk x1 P1 hb hmo eK
                    have S1 := pr_S P1
                    have I1 : Inv (w_pl s F) := Inv_pl I (fun l1 k1 a b => by have := hFb l1 k1; omega)
                    have hkt : k < s_told s := by omega
                    have hFk := hFb l k
                    simp only [scK] at eK
                    refine k_iload rfl rfl ?_
                    refine k_aload_n rfl rfl ?_
                    refine k_gI rfl rfl (sr_o S1) (show hp_i _ m 1 = nI (s_told s) from pr_told (s := w_pl s F) P1) ?_
                    refine kn_ge rfl (by omega) (by omega) (fun c67 => ?_) (fun c67 => ?_)
                    · exact absurd c67 (by omega)
                    · refine k_aload_n rfl rfl ?_
                      refine k_aload_n rfl rfl ?_
                      refine k_getR rfl rfl (sr_o S1) (sr_plan S1) ?_
                      refine k_iload rfl rfl ?_
                      refine k_cV2 rfl cw_R_given wd_520 (sr_o S1) rfl (by decide) (Nat.le_of_ble_eq_true rfl) ?_
                      refine c_R_given (F := F) P1 I1 (sr_a7 S1) (by omega) (fun k1 hk1 => pr_pl P1 l k1 (by omega) (by have : k1 < s_told s := hk1; omega)) ?_
                      rw [show s_told (w_pl s F) = s_told s from rfl]
                      refine k_aload_n rfl rfl ?_
                      refine k_iload rfl rfl ?_
                      refine k_cV1 rfl cw_R_use wd_524 (sr_o S1) rfl (by decide) (Nat.le_of_ble_eq_true rfl) ?_
                      refine c_R_use P1 I1 hl ?_
                      rw [us_pl]
                      refine kn_ge rfl (by omega) (by omega) (fun c86 => ?_) (fun c86 => ?_)
                      · exact absurd c86 (by omega)
                      · refine k_aload_n rfl rfl ?_
                        refine k_getR rfl rfl (sr_o S1) (sr_plan S1) ?_
                        refine k_bipush (v := nI 40) rfl (by decide) ?_
                        refine k_iload rfl rfl ?_
                        refine k_imul rfl ?_
                        refine k_iload rfl rfl ?_
                        refine k_iadd rfl ?_
                        rw [ix40]
                        refine k_dup2 rfl rfl rfl ?_
                        refine k_iA (x := nI (F l k)) rfl (sr_a7 S1) rfl (by omega) (by decide) (pr_pl P1 l k (by omega) (by omega)) ?_
                        refine k_iconst (v := nI 1) rfl (by decide) ?_
                        refine k_iaddN rfl ?_
                        refine k_iS rfl (sr_a7 S1) rfl (by omega) (by decide) ?_
                        have P2 := PR_bmp P1 (l := l) (k := k) (by omega) (by omega)
                        have x2 : hp_fr (inR m) h (hp_ui h1 (m + 7) (40 * l + k) (nI (F l k + 1))) := fr_tr x1 (fr_ui ⟨by omega, by omega⟩)
                        generalize (hp_ui h1 (m + 7) (40 * l + k) (nI (F l k + 1))) = h2 at P2 x2 ⊢
                        have S2 := pr_S P2
                        have I2 : Inv (w_pl s (bmp F l k)) := Inv_pl I (fun l1 k1 a b => by have := bmp_le hFb (l := l) (k := k) l1 k1; omega)
                        refine k_aload_n rfl rfl ?_
                        refine k_aload_n rfl rfl ?_
                        refine k_getR rfl rfl (sr_o S2) (sr_plan S2) ?_
                        refine k_cV1 rfl cw_R_worth wd_507 (sr_o S2) rfl (by decide) (Nat.le_of_ble_eq_true rfl) ?_
                        refine c_R_worth (F := bmp F l k) P2 I2 (sr_a7 S2) (fun l1 k1 a b => pr_pl P2 l1 k1 (by have : l1 < s_lkr s := a; omega) (by have : k1 < s_told s := b; omega)) (fun l1 k1 a b => by have := bmp_le hFb (l := l) (k := k) l1 k1; omega) ?_
                        rw [wo_pl, show s_told (w_pl s (bmp F l k)) = s_told s from rfl]
                        refine k_lst11 rfl rfl ?_
                        refine k_aload_n rfl rfl ?_
                        refine k_getR rfl rfl (sr_o S2) (sr_plan S2) ?_
                        refine k_bipush (v := nI 40) rfl (by decide) ?_
                        refine k_iload rfl rfl ?_
                        refine k_imul rfl ?_
                        refine k_iload rfl rfl ?_
                        refine k_iadd rfl ?_
                        rw [ix40]
                        refine k_dup2 rfl rfl rfl ?_
                        refine k_iA (x := nI (F l k + 1)) rfl (sr_a7 S2) rfl (by omega) (by decide) ((pr_pl P2 l k (by omega) (by omega)).trans (by show nI (bmp F l k l k) = _; unfold bmp; rw [if_pos ⟨rfl, rfl⟩])) ?_
                        refine k_iconst (v := 1) rfl (by decide) ?_
                        refine k_isub rfl ?_
                        rw [nI_pred]
                        refine k_iS rfl (sr_a7 S2) rfl (by omega) (by decide) ?_
                        have P3 := PR_unb P2 (l := l) (k := k) (by omega) (by omega)
                        have x3 : hp_fr (inR m) h (hp_ui h2 (m + 7) (40 * l + k) (nI (F l k))) := fr_tr x2 (fr_ui ⟨by omega, by omega⟩)
                        generalize (hp_ui h2 (m + 7) (40 * l + k) (nI (F l k))) = h3 at P3 x3 ⊢
                        have hwb := wo_le I (bmp F l k) (s_told s) (Nat.le_refl _)
                        refine k_lload rfl rfl ?_
                        refine k_lload rfl rfl ?_
                        refine klN_le rfl rfl (by omega) (by omega) (fun c137 => ?_) (fun c137 => ?_)
                        · rw [if_neg (by omega), if_neg (by omega)] at eK
                          refine k_iload rfl rfl ?_
                          refine k_ist8 rfl rfl ?_
                          refine k_lload rfl rfl ?_
                          refine k_lload rfl rfl ?_
                          refine klN_le rfl rfl (by omega) (by omega) (fun c160 => ?_) (fun c160 => ?_)
                          · refine k_lload rfl rfl ?_
                            refine k_lst6 rfl rfl ?_
                            refine k_incN10 rfl rfl ?_
                            refine k_goto rfl ?_
                            exact ihk (k + 1) b mo h3 _ (by omega) x3 P3 hb hmo eK
                          · refine k_lload rfl rfl ?_
                            refine k_goto rfl ?_
                            refine k_lst6 rfl rfl ?_
                            refine k_incN10 rfl rfl ?_
                            refine k_goto rfl ?_
                            exact absurd c160 (by omega)
                        · rw [if_pos c137, if_pos c137] at eK
                          refine k_bipush (v := nI 40) rfl (by decide) ?_
                          refine k_iload rfl rfl ?_
                          refine k_imul rfl ?_
                          refine k_iload rfl rfl ?_
                          refine k_iadd rfl ?_
                          rw [ix40]
                          refine k_goto rfl ?_
                          refine k_ist8 rfl rfl ?_
                          refine k_lload rfl rfl ?_
                          refine k_lload rfl rfl ?_
                          refine klN_le rfl rfl (by omega) (by omega) (fun c160 => ?_) (fun c160 => ?_)
                          · refine k_lload rfl rfl ?_
                            refine k_lst6 rfl rfl ?_
                            refine k_incN10 rfl rfl ?_
                            refine k_goto rfl ?_
                            exact absurd c160 (by omega)
                          · refine k_lload rfl rfl ?_
                            refine k_goto rfl ?_
                            refine k_lst6 rfl rfl ?_
                            refine k_incN10 rfl rfl ?_
                            refine k_goto rfl ?_
                            exact ihk (k + 1) (some (40 * l + k)) _ h3 _ (by omega) x3 P3 (fun j e => ⟨l, k, (Option.some.inj e).symm, hl, by omega⟩) (by omega) eK
                · rw [if_neg hg] at eS
                  have I1 : Inv (w_pl s F) := Inv_pl I (fun l1 k1 a b => by have := hFb l1 k1; omega)
                  refine k_iload rfl rfl ?_
                  refine k_aload_n rfl rfl ?_
                  refine k_gI rfl rfl (sr_o S1) (show hp_i _ m 1 = nI (s_told s) from pr_told (s := w_pl s F) P1) ?_
                  refine k_icmp_ge rfl (fun c67 => ?_) (fun c67 => ?_)
                  · refine k_incN9 rfl rfl ?_
                    refine k_goto rfl ?_
                    exact ihl (l + 1) b mo h1 _ _ (by omega) x1 P1 hb hmo eS
                  · refine k_aload_n rfl rfl ?_
                    refine k_aload_n rfl rfl ?_
                    refine k_getR rfl rfl (sr_o S1) (sr_plan S1) ?_
                    refine k_iload rfl rfl ?_
                    refine k_cV2 rfl cw_R_given wd_520 (sr_o S1) rfl (by decide) (Nat.le_of_ble_eq_true rfl) ?_
                    refine c_R_given (F := F) P1 I1 (sr_a7 S1) (by omega) (fun k1 hk1 => pr_pl P1 l k1 (by omega) (by have : k1 < s_told s := hk1; omega)) ?_
                    rw [show s_told (w_pl s F) = s_told s from rfl]
                    refine k_aload_n rfl rfl ?_
                    refine k_iload rfl rfl ?_
                    refine k_cV1 rfl cw_R_use wd_524 (sr_o S1) rfl (by decide) (Nat.le_of_ble_eq_true rfl) ?_
                    refine c_R_use P1 I1 hl ?_
                    rw [us_pl]
                    refine kn_ge rfl (by omega) (by omega) (fun c86 => ?_) (fun c86 => ?_)
                    · refine k_incN9 rfl rfl ?_
                      refine k_goto rfl ?_
                      exact ihl (l + 1) b mo h1 _ _ (by omega) x1 P1 hb hmo eS
                    · exact absurd c86 (by omega)
    · refine k_iconst (v := -1) rfl (by decide) ?_
      refine k_iret rfl rfl (Nat.le_refl _) (Nat.le_refl _) ?_
      rw [if_pos (Or.inr (Int32.not_le.mp c7))] at hQ; exact hQ h fr_rf P
end
section
/-! n hours in sl places: T; the next one; all of them come -/
def smT (T : Nat → Nat) : Nat → Nat
  | 0 => 0
  | i + 1 => smT T i + T i
def cmpT (sl n : Nat) (T : Nat → Nat) : Prop := (∀ i, sl ≤ i → T i = 0) ∧ smT T sl = n
def nxT (T : Nat → Nat) (i : Nat) : Nat → Nat := fun x => if x = 0 then T i - 1 else if x = i then 0 else if x = i + 1 then T (i + 1) + 1 else T x
def cl (sl : Nat) (U T : Nat → Nat) : Prop := ∃ j, j < sl ∧ U j < T j ∧ ∀ x, j < x → x < sl → U x = T x
theorem smT_0 {T : Nat → Nat} : ∀ j, (∀ x, x < j → T x = 0) → smT T j = 0
  | 0, _ => rfl
  | j + 1, h => by simp only [smT]; rw [smT_0 j (fun x hx => h x (by omega)), h j (by omega)]
theorem smT_of0 {T : Nat → Nat} : ∀ j, smT T j = 0 → ∀ x, x < j → T x = 0
  | 0, _, x, hx => by omega
  | j + 1, h, x, hx => by
    simp only [smT] at h
    by_cases e : x = j
    · subst e; omega
    · exact smT_of0 j (by omega) x (by omega)
theorem smT_le {T : Nat → Nat} : ∀ j x, x < j → T x ≤ smT T j
  | 0, x, hx => by omega
  | j + 1, x, hx => by
    simp only [smT]
    by_cases e : x = j
    · subst e; omega
    · have := smT_le (T := T) j x (by omega); omega
theorem smT_pre {U T : Nat → Nat} {sl j : Nat} (h : smT U sl = smT T sl) (hj : j ≤ sl) (e : ∀ x, j ≤ x → x < sl → U x = T x) : smT U j = smT T j := by
  induction sl with
  | zero => have : j = 0 := by omega
            subst this; rfl
  | succ sl ih =>
    by_cases q : j = sl + 1
    · subst q; exact h
    · refine ih ?_ (by omega) (fun x h1 h2 => e x h1 (by omega))
      simp only [smT] at h
      have := e sl (by omega) (by omega)
      omega
theorem smT_suf {U T : Nat → Nat} {a : Nat} (h : smT U a = smT T a) : ∀ q, (∀ x, a ≤ x → x < a + q → U x = T x) → smT U (a + q) = smT T (a + q)
  | 0, _ => h
  | q + 1, e => by
    have h1 := smT_suf h q (fun x h1 h2 => e x h1 (by omega))
    have h2 := e (a + q) (by omega) (by omega)
    show smT U (a + q) + U (a + q) = smT T (a + q) + T (a + q)
    omega
theorem smT_1 {T : Nat → Nat} : ∀ j, 0 < j → (∀ x, 0 < x → x < j → T x = 0) → smT T j = T 0
  | 0, h, _ => by omega
  | 1, _, _ => by simp [smT]
  | j + 2, _, h => by
    show smT T (j + 1) + T (j + 1) = _
    rw [smT_1 (j + 1) (by omega) (fun x h1 h2 => h x h1 (by omega)), h (j + 1) (by omega) (by omega)]; rfl
theorem nx_sum {T : Nat → Nat} {i : Nat} (h0 : ∀ x, x < i → T x = 0) (hp : 0 < T i) : smT (nxT T i) (i + 2) = smT T (i + 2) := by
  show smT (nxT T i) (i + 1) + nxT T i (i + 1) = smT T (i + 1) + T (i + 1)
  have e1 : smT T (i + 1) = T i := by show smT T i + T i = _; rw [smT_0 i h0, Nat.zero_add]
  have e2 : smT (nxT T i) (i + 1) = T i - 1 := by
    rw [smT_1 (i + 1) (by omega) (fun x h1 h2 => ?_)]
    · rfl
    · unfold nxT
      rw [if_neg (by omega)]
      by_cases e : x = i
      · rw [if_pos e]
      · rw [if_neg e, if_neg (by omega)]; exact h0 x (by omega)
  have e3 : nxT T i (i + 1) = T (i + 1) + 1 := by unfold nxT; rw [if_neg (by omega), if_neg (by omega), if_pos rfl]
  omega
theorem nx_cmp {sl n i : Nat} {T : Nat → Nat} (h : cmpT sl n T) (hi : i + 1 < sl) (h0 : ∀ x, x < i → T x = 0) (hp : 0 < T i) : cmpT sl n (nxT T i) := by
  refine ⟨fun x hx => ?_, ?_⟩
  · unfold nxT
    rw [if_neg (by omega), if_neg (by omega), if_neg (by omega)]
    exact h.1 x hx
  · obtain ⟨q, rfl⟩ : ∃ q, sl = i + 2 + q := ⟨sl - (i + 2), by omega⟩
    rw [smT_suf (nx_sum h0 hp) q (fun x h1 h2 => ?_)]
    · exact h.2
    · unfold nxT
      rw [if_neg (by omega), if_neg (by omega), if_neg (by omega)]
theorem cl_nx {sl n i : Nat} {U T : Nat → Nat} (hU : cmpT sl n U) (hT : cmpT sl n T) (hi : i + 1 < sl) (h0 : ∀ x, x < i → T x = 0) (hp : 0 < T i) (h : cl sl U (nxT T i)) : cl sl U T ∨ U = T := by
  obtain ⟨j, hj, hlt, hab⟩ := h
  have nz : ∀ x, i + 1 < x → nxT T i x = T x := fun x hx => by unfold nxT; rw [if_neg (by omega), if_neg (by omega), if_neg (by omega)]
  have e1 : nxT T i (i + 1) = T (i + 1) + 1 := by unfold nxT; rw [if_neg (by omega), if_neg (by omega), if_pos rfl]
  have hs : smT U sl = smT T sl := hU.2.trans hT.2.symm
  by_cases c1 : i + 1 < j
  · rw [nz j c1] at hlt
    exact Or.inl ⟨j, hj, hlt, fun x h1 h2 => by rw [hab x h1 h2, nz x (by omega)]⟩
  · by_cases c2 : j = i + 1
    · subst c2
      rw [e1] at hlt
      have ab : ∀ x, i + 1 < x → x < sl → U x = T x := fun x h1 h2 => by rw [hab x h1 h2, nz x h1]
      by_cases c3 : U (i + 1) < T (i + 1)
      · exact Or.inl ⟨i + 1, hj, c3, ab⟩
      · have c4 : U (i + 1) = T (i + 1) := by omega
        have ab1 : ∀ x, i + 1 ≤ x → x < sl → U x = T x := fun x h1 h2 => by
          by_cases e : x = i + 1
          · rw [e]; exact c4
          · exact ab x (by omega) h2
        have p1 := smT_pre hs (by omega) ab1
        have p2 : smT T (i + 1) = T i := by show smT T i + T i = _; rw [smT_0 i h0, Nat.zero_add]
        have p3 := smT_le (T := U) (i + 1) i (by omega)
        by_cases c5 : U i < T i
        · exact Or.inl ⟨i, by omega, c5, fun x h1 h2 => ab1 x (by omega) h2⟩
        · right
          have c6 : U i = T i := by omega
          have p4 : smT U i = 0 := by
            have : smT U (i + 1) = smT U i + U i := rfl
            omega
          have p5 := smT_of0 i p4
          funext x
          by_cases q1 : x < i
          · rw [p5 x q1, h0 x q1]
          · by_cases q2 : x = i
            · rw [q2]; exact c6
            · by_cases q3 : x < sl
              · exact ab1 x (by omega) q3
              · rw [hU.1 x (by omega), hT.1 x (by omega)]
    · by_cases c3 : j = 0
      · subst c3
        exfalso
        have hN := nx_cmp hT hi h0 hp
        have p1 := smT_pre (j := 1) (hU.2.trans hN.2.symm) (by omega) (fun x h1 h2 => hab x (by omega) h2)
        have p2 : smT U 1 = U 0 := by simp [smT]
        have p3 : smT (nxT T i) 1 = nxT T i 0 := by simp [smT]
        omega
      · exfalso
        have : nxT T i j = 0 := by
          unfold nxT
          rw [if_neg c3]
          by_cases e : j = i
          · rw [if_pos e]
          · rw [if_neg e, if_neg c2]; exact h0 j (by omega)
        omega
theorem cl_end {sl n i : Nat} {U T : Nat → Nat} (hU : cmpT sl n U) (hT : cmpT sl n T) (hi : sl ≤ i + 1) (h0 : ∀ x, x < i → x < sl → T x = 0) : cl sl U T ∨ U = T := by
  have hs : smT U sl = smT T sl := hU.2.trans hT.2.symm
  cases sl with
  | zero => exact Or.inr (funext fun x => by rw [hU.1 x (by omega), hT.1 x (by omega)])
  | succ k =>
    have p2 : smT T k = 0 := smT_0 k (fun x hx => h0 x (by omega) (by omega))
    have p3 : smT U (k + 1) = smT U k + U k := rfl
    have p4 : smT T (k + 1) = smT T k + T k := rfl
    by_cases c : U k < T k
    · exact Or.inl ⟨k, by omega, c, fun x h1 h2 => by omega⟩
    · right
      have p5 := smT_of0 k (show smT U k = 0 by omega)
      funext x
      by_cases q1 : x < k
      · rw [p5 x q1, h0 x (by omega) (by omega)]
      · by_cases q2 : x = k
        · rw [q2]; omega
        · rw [hU.1 x (by omega), hT.1 x (by omega)]
def rkT (b : Nat) (T : Nat → Nat) : Nat → Nat
  | 0 => 0
  | i + 1 => rkT b T i + T i * b ^ i
theorem rkT_0 {b : Nat} {T : Nat → Nat} : ∀ j, (∀ x, x < j → T x = 0) → rkT b T j = 0
  | 0, _ => rfl
  | j + 1, h => by simp only [rkT]; rw [rkT_0 j (fun x hx => h x (by omega)), h j (by omega), Nat.zero_mul]
theorem rkT_1 {b : Nat} {T : Nat → Nat} : ∀ j, 0 < j → (∀ x, 0 < x → x < j → T x = 0) → rkT b T j = T 0
  | 0, h, _ => by omega
  | 1, _, _ => by simp [rkT]
  | j + 2, _, h => by
    show rkT b T (j + 1) + T (j + 1) * b ^ (j + 1) = _
    rw [rkT_1 (j + 1) (by omega) (fun x h1 h2 => h x h1 (by omega)), h (j + 1) (by omega) (by omega), Nat.zero_mul]; rfl
theorem rkT_suf {b : Nat} {U T : Nat → Nat} {a : Nat} (h : rkT b T a < rkT b U a) : ∀ q, (∀ x, a ≤ x → x < a + q → U x = T x) → rkT b T (a + q) < rkT b U (a + q)
  | 0, _ => h
  | q + 1, e => by
    have h1 := rkT_suf h q (fun x h1 h2 => e x h1 (by omega))
    have h2 := e (a + q) (by omega) (by omega)
    show rkT b T (a + q) + T (a + q) * b ^ (a + q) < rkT b U (a + q) + U (a + q) * b ^ (a + q)
    rw [h2]; omega
theorem rkT_le {b : Nat} (hb : 0 < b) {T : Nat → Nat} : ∀ j, rkT b T j ≤ smT T j * b ^ j
  | 0 => by simp [rkT]
  | j + 1 => by
    have h1 := rkT_le hb (T := T) j
    have h2 : b ^ j ≤ b ^ (j + 1) := Nat.pow_le_pow_right hb (by omega)
    have h3 : smT T j * b ^ j ≤ smT T j * b ^ (j + 1) := Nat.mul_le_mul_left _ h2
    have h4 : T j * b ^ j ≤ T j * b ^ (j + 1) := Nat.mul_le_mul_left _ h2
    show rkT b T j + T j * b ^ j ≤ (smT T j + T j) * b ^ (j + 1)
    rw [Nat.add_mul]; omega
theorem nx_rk {sl n i : Nat} {T : Nat → Nat} (h : cmpT sl n T) (hi : i + 1 < sl) (h0 : ∀ x, x < i → T x = 0) (hp : 0 < T i) : rkT (n + 1) T sl < rkT (n + 1) (nxT T i) sl := by
  obtain ⟨q, rfl⟩ : ∃ q, sl = i + 2 + q := ⟨sl - (i + 2), by omega⟩
  refine rkT_suf ?_ q (fun x h1 h2 => by unfold nxT; rw [if_neg (by omega), if_neg (by omega), if_neg (by omega)])
  show rkT (n + 1) T (i + 1) + T (i + 1) * (n + 1) ^ (i + 1) < rkT (n + 1) (nxT T i) (i + 1) + nxT T i (i + 1) * (n + 1) ^ (i + 1)
  have e1 : rkT (n + 1) T (i + 1) = T i * (n + 1) ^ i := by show rkT _ T i + _ = _; rw [rkT_0 i h0, Nat.zero_add]
  have e3 : nxT T i (i + 1) = T (i + 1) + 1 := by unfold nxT; rw [if_neg (by omega), if_neg (by omega), if_pos rfl]
  have hTi : T i ≤ n := by rw [← h.2]; exact smT_le _ i (by omega)
  have e4 : T i * (n + 1) ^ i < (n + 1) ^ (i + 1) := by
    rw [Nat.pow_succ, Nat.mul_comm]
    exact Nat.mul_lt_mul_of_pos_left (by omega) (Nat.pow_pos (by omega))
  rw [e1, e3, Nat.add_mul, Nat.one_mul]
  omega
/-- the plan that T is -/
def TF (s : St) (T : Nat → Nat) : Nat → Nat → Nat := fun l k => T (l * s_told s + k)
def mbT (s : St) (T : Nat → Nat) : Nat → Bool
  | 0 => true
  | l + 1 => mbT s T l && decide (gv (TF s T) l (s_told s) ≤ us s l)
def okT (s : St) (mo : Nat) (T : Nat → Nat) : Prop := mbT s T (s_lkr s) = true ∧ mo < wo s (TF s T) (s_told s)
def slN (t x : Nat) : Nat := 40 * (x / t) + x % t
theorem slN_inj {t x y : Nat} (h0 : 0 < t) (h4 : t ≤ 40) (h : slN t x = slN t y) : x = y := by
  unfold slN at h
  have h1 := Nat.mod_lt x h0
  have h2 := Nat.mod_lt y h0
  have e1 : x / t = y / t := by omega
  have e2 : x % t = y % t := by omega
  have d1 := Nat.div_add_mod x t
  have d2 := Nat.div_add_mod y t
  rw [← d1, ← d2, e1, e2]
theorem slN_lk {t l k : Nat} (hk : k < t) : slN t (l * t + k) = 40 * l + k := by
  unfold slN
  have h0 : 0 < t := by omega
  rw [Nat.mul_comm l t, Nat.mul_add_div h0, Nat.div_eq_of_lt hk, Nat.mul_add_mod, Nat.mod_eq_of_lt hk, Nat.add_zero]
theorem slN_lt {t x L : Nat} (h0 : 0 < t) (h4 : t ≤ 40) (hL : L ≤ 4) (h : x < t * L) : slN t x < 160 := by
  unfold slN
  have h1 := Nat.mod_lt x h0
  have h2 : x / t < L := Nat.div_lt_of_lt_mul h
  omega
theorem lk_lt {t L l k : Nat} (hl : l < L) (hk : k < t) : l * t + k < t * L := by
  have h1 : (l + 1) * t ≤ L * t := Nat.mul_le_mul_right t hl
  rw [Nat.add_mul, Nat.one_mul, Nat.mul_comm L t] at h1
  omega
theorem PR_tr {g : Gx} {h : Hp} {m j : Nat} {x : Int32} {s : St} (P : PR g h m s) : PR g (hp_ui h (m + 8) j x) m s := by
  have S := pr_S P
  exact ⟨S, ((by simp only [i_ui, j_ui, i_uj, j_uj]; (repeat rw [if_neg (by omega)]); exact pr_cells (s := s) P)), ((by simp only [i_ui, j_ui, i_uj, j_uj]; (repeat rw [if_neg (by omega)]); exact pr_told (s := s) P)), (fun k z => (by simp only [i_ui, j_ui, i_uj, j_uj]; (repeat rw [if_neg (by omega)]); exact pr_num (s := s) P k z)), (fun k z => (by simp only [i_ui, j_ui, i_uj, j_uj]; (repeat rw [if_neg (by omega)]); exact pr_ar (s := s) P k z)), (fun t k z y => (by simp only [i_ui, j_ui, i_uj, j_uj]; (repeat rw [if_neg (by omega)]); exact pr_cn (s := s) P t k z y)), ((by simp only [i_ui, j_ui, i_uj, j_uj]; (repeat rw [if_neg (by omega)]); exact pr_things (s := s) P)), ((by simp only [i_ui, j_ui, i_uj, j_uj]; (repeat rw [if_neg (by omega)]); exact pr_lkr (s := s) P)), (fun k z => (by simp only [i_ui, j_ui, i_uj, j_uj]; (repeat rw [if_neg (by omega)]); exact pr_rt (s := s) P k z)), (fun k z => (by simp only [i_ui, j_ui, i_uj, j_uj]; (repeat rw [if_neg (by omega)]); exact pr_hr (s := s) P k z)), (fun t k z y => (by simp only [i_ui, j_ui, i_uj, j_uj]; (repeat rw [if_neg (by omega)]); exact pr_bd (s := s) P t k z y)), (fun t k z y => (by simp only [i_ui, j_ui, i_uj, j_uj]; (repeat rw [if_neg (by omega)]); exact pr_pl (s := s) P t k z y)), (fun t k z y => (by simp only [i_ui, j_ui, i_uj, j_uj]; (repeat rw [if_neg (by omega)]); exact pr_ld (s := s) P t k z y)), ((by simp only [i_ui, j_ui, i_uj, j_uj]; (repeat rw [if_neg (by omega)]); exact pr_lks (s := s) P)), (fun k z => (by simp only [i_ui, j_ui, i_uj, j_uj]; (repeat rw [if_neg (by omega)]); exact pr_gl (s := s) P k z)), (fun k z => (by simp only [i_ui, j_ui, i_uj, j_uj]; (repeat rw [if_neg (by omega)]); exact pr_gc (s := s) P k z)), (fun k z => (by simp only [i_ui, j_ui, i_uj, j_uj]; (repeat rw [if_neg (by omega)]); exact pr_gh (s := s) P k z)), (fun k z => (by simp only [i_ui, j_ui, i_uj, j_uj]; (repeat rw [if_neg (by omega)]); exact pr_gt (s := s) P k z)), ((by simp only [i_ui, j_ui, i_uj, j_uj]; (repeat rw [if_neg (by omega)]); exact pr_seen (s := s) P)), ((by simp only [i_ui, j_ui, i_uj, j_uj]; (repeat rw [if_neg (by omega)]); exact pr_ab (s := s) P)), ((by simp only [i_ui, j_ui, i_uj, j_uj]; (repeat rw [if_neg (by omega)]); exact pr_bl (s := s) P))⟩
theorem c_R_isBetter {g : Gx} {h : Hp} {m d : Nat} {s : St} {Q : Option Value → Hp → Prop} (P : PR g h m s) (I : Inv s) {sl n mo : Nat} (hsl : sl = s_told s * s_lkr s) (hn : n ≤ 5) (hmo : mo < 2 ^ 63) (hQ : ∀ (h1 : Hp) (b : Bool), hp_fr (inR m) h h1 → PR g h1 m s → (b = true ↔ 0 < sl ∧ ∃ T, cmpT sl n T ∧ okT s mo T) → Q (some (.int (bI b))) h1) : Ct g M_R_isBetter (d + 2) 0 0 [.ref m, .int (nI sl), .int (nI n), .long (lN mo)] h Q := by
  have S := pr_S P
  have bT := v_told I
  have bL := v_lkr I
  refine ct_of ok_R_isBetter (by decide) (Nat.le_of_ble_eq_true rfl) [some (.ref m), some (.int (nI sl)), some (.int (nI n)), some (.long (lN mo)), none, none, none, none, none] rfl rfl ?_
  have hslb : sl ≤ 160 := by rw [hsl]; exact Nat.le_trans (Nat.mul_le_mul bT bL) (by decide)
  refine k_iload_n rfl rfl ?_
  refine k_if_ne rfl (fun c1 => ?_) (fun c1 => ?_)
  · have h0 : 0 < sl := Nat.pos_of_ne_zero (fun z => c1 (by rw [z]; rfl))
    refine k_iconst (v := nI 0) rfl (by decide) ?_
    refine k_ist5 rfl rfl ?_
    have hT0 : 0 < s_told s := Nat.pos_of_ne_zero (fun z => by rw [z, Nat.zero_mul] at hsl; omega)
    suffices Hz : ∀ (qz i : Nat) (h1 : Hp), i + qz = 160 → hp_fr (inR m) h h1 → PR g h1 m s → (∀ j, j < i → hp_i h1 (m + 8) j = nI 0) → Om g M_R_isBetter (d + 2) Q h1 9 [some (.ref m), some (.int (nI sl)), some (.int (nI n)), some (.long (lN mo)), none, some (.int (nI i)), none, none, none] [] from Hz 160 0 h rfl fr_rf P (fun j hj => absurd hj (Nat.not_lt_zero j))
    intro qz
    induction qz with
    | zero =>
      intro i h1 hi x1 P1 hz
      have S1 := pr_S P1
      have ei : i = 160 := by omega
      subst ei
      refine k_iload rfl rfl ?_
      refine k_sipush (v := nI 160) rfl (by decide) ?_
      refine kn_ge rfl (by omega) (by omega) (fun c14 => ?_) (fun c14 => ?_)
      · refine k_aload_n rfl rfl ?_
        refine k_getR rfl rfl (sr_o S1) (sr_trial S1) ?_
        refine k_aload_n rfl rfl ?_
        refine k_iconst (v := nI 0) rfl (by decide) ?_
        refine k_cV1 rfl cw_R_slot wd_544 (sr_o S1) rfl (by decide) (Nat.le_of_ble_eq_true rfl) ?_
        refine c_R_slot P1 I (i := 0) hT0 (by omega) ?_
        refine k_iload_n rfl rfl ?_
        refine k_iS rfl (sr_a8 S1) (j := slN (s_told s) 0) rfl (slN_lt hT0 bT bL (by omega)) (by decide) ?_
        refine k_iconst (v := nI 1) rfl (by decide) ?_
        refine k_ist5 rfl rfl ?_
        suffices H : ∀ (q : Nat) (T : Nat → Nat) (h1 : Hp) (z6 z7 z8 : Option Value), lc_1 z6 = true → lc_1 z7 = true → lc_1 z8 = true → n * (n + 1) ^ sl < q + rkT (n + 1) T sl → hp_fr (inR m) h h1 → PR g h1 m s → cmpT sl n T → (∀ x, x < sl → hp_i h1 (m + 8) (slN (s_told s) x) = nI (T x)) → (∀ U, cmpT sl n U → cl sl U T → ¬ okT s mo U) → Om g M_R_isBetter (d + 2) Q h1 45 [some (.ref m), some (.int (nI sl)), some (.int (nI n)), some (.long (lN mo)), none, some (.int (nI 1)), z6, z7, z8] [] from H (n * (n + 1) ^ sl + 1) (fun x => if x = 0 then n else 0) _ none none none rfl rfl rfl (by omega) (fr_tr x1 (fr_ui ⟨by omega, by omega⟩)) (PR_tr P1)
            ⟨fun x hx => if_neg (by omega), by
              rw [smT_1 sl h0 (fun x a b => if_neg (by omega))]; rfl⟩
            (fun x hx => by
              rw [i_ui]
              by_cases e0 : x = 0
              · rw [if_pos ⟨rfl, by rw [e0]⟩, if_pos e0]
              · rw [if_neg (fun z => e0 (slN_inj hT0 bT z.2)), if_neg e0]
                exact hz _ (slN_lt hT0 bT bL (by omega)))
            (fun U hU q oU => by
              obtain ⟨j, hj, hlt, hab⟩ := q
              by_cases e0 : j = 0
              · subst e0
                have p1 := smT_1 (T := U) sl h0 (fun x a b => by rw [hab x a b]; exact if_neg (by omega))
                rw [hU.2] at p1
                have hl2 : U 0 < (if (0 : Nat) = 0 then n else 0) := hlt
                rw [if_pos rfl] at hl2
                omega
              · have hl2 : U j < (if j = 0 then n else 0) := hlt
                rw [if_neg e0] at hl2
                omega)
        intro q
        induction q with
        | zero =>
          intro T h1 z6 z7 z8 a6 a7 a8 hm x1 P1 hC
          have r1 := rkT_le (b := n + 1) (by omega) (T := T) sl
          rw [hC.2] at r1
          exact absurd hm (by omega)
        | succ q ih =>
          intro T h1 z6 z7 z8 a6 a7 a8 hm x1 P1 hC hTr hV
          have S1 := pr_S P1
          have hrow : ∀ l1 k1, l1 < s_lkr s → k1 < s_told s → hp_i h1 (m + 8) (40 * l1 + k1) = nI (TF s T l1 k1) := fun l1 k1 a b => by
            have y := hTr (l1 * s_told s + k1) (by rw [hsl]; exact lk_lt a b)
            rw [slN_lk b] at y
            exact y
          have J122 : ∀ (z6 z7 z8 : Option Value), lc_1 z6 = true → ¬ okT s mo T → Om g M_R_isBetter (d + 2) Q h1 122 [some (.ref m), some (.int (nI sl)), some (.int (nI n)), some (.long (lN mo)), none, some (.int (nI 1)), z6, z7, z8] [] := by
            intro z6 z7 z8 hz6 hno
            refine k_iconst (v := nI 0) rfl (by decide) ?_
            refine k_ist7 rfl hz6 ?_
            have J151 : ∀ (i : Nat) (z8 : Option Value), i ≤ sl → (∀ x, x < i → x < sl → T x = 0) → (i < sl → T i ≠ 0) → Om g M_R_isBetter (d + 2) Q h1 151 [some (.ref m), some (.int (nI sl)), some (.int (nI n)), some (.long (lN mo)), none, some (.int (nI 1)), z6, some (.int (nI i)), z8] [] := by
              intro i z8 hi hz hT9
              by_cases he : sl ≤ i + 1
              · refine k_iload rfl rfl ?_
                refine k_iload_n rfl rfl ?_
                refine k_iconst (v := 1) rfl (by decide) ?_
                refine k_isub rfl ?_
                rw [show nI sl - 1 = nI (sl - 1) from by obtain ⟨y, rfl⟩ : ∃ y, sl = y + 1 := ⟨sl - 1, by omega⟩; exact nI_pred y]
                refine kn_ge rfl (by omega) (by omega) (fun c156 => ?_) (fun c156 => ?_)
                · refine k_iconst (v := nI 0) rfl (by decide) ?_
                  refine k_ist5 rfl rfl ?_
                  refine k_iload rfl rfl ?_
                  refine k_if_eq rfl (fun c168 => ?_) (fun c168 => ?_)
                  · refine k_goto rfl ?_
                    refine k_iload rfl rfl ?_
                    refine k_if_eq rfl (fun c47 => ?_) (fun c47 => ?_)
                    · refine k_iconst (v := nI 0) rfl (by decide) ?_
                      refine k_zret rfl rfl (by decide) (Nat.le_refl _) (Nat.le_refl _) ?_
                      exact hQ h1 false x1 P1 ⟨fun z => (by cases z), fun z => by
                        obtain ⟨-, U, hU, oU⟩ := z
                        rcases cl_end hU hC he hz with q | q
                        · exact absurd oU (hV U hU q)
                        · rw [q] at oU; exact absurd oU hno⟩
                    · exact absurd rfl c47
                  · exact absurd rfl c168
                · exact absurd c156 (by omega)
              · have hi1 : i + 1 < sl := by omega
                have hz0 : ∀ x, x < i → T x = 0 := fun x hx => hz x hx (by omega)
                have hp : 0 < T i := by have := hT9 (by omega); omega
                have hTb := smT_le (T := T) sl i (by omega)
                have hTb1 := smT_le (T := T) sl (i + 1) (by omega)
                have hC2 := hC.2
                refine k_iload rfl rfl ?_
                refine k_iload_n rfl rfl ?_
                refine k_iconst (v := 1) rfl (by decide) ?_
                refine k_isub rfl ?_
                rw [show nI sl - 1 = nI (sl - 1) from by obtain ⟨y, rfl⟩ : ∃ y, sl = y + 1 := ⟨sl - 1, by omega⟩; exact nI_pred y]
                refine kn_ge rfl (by omega) (by omega) (fun c156 => ?_) (fun c156 => ?_)
                · exact absurd c156 (by omega)
                · refine k_iconst (v := nI 1) rfl (by decide) ?_
                  refine k_goto rfl ?_
                  refine k_ist5 rfl rfl ?_
                  refine k_iload rfl rfl ?_
                  refine k_if_eq rfl (fun c168 => ?_) (fun c168 => ?_)
                  · exact absurd c168 (by decide)
                  · refine k_aload_n rfl rfl ?_
                    refine k_getR rfl rfl (sr_o S1) (sr_trial S1) ?_
                    refine k_aload_n rfl rfl ?_
                    refine k_iload rfl rfl ?_
                    refine k_cV1 rfl cw_R_slot wd_544 (sr_o S1) rfl (by decide) (Nat.le_of_ble_eq_true rfl) ?_
                    refine c_R_slot P1 I (i := i) hT0 (by omega) ?_
                    refine k_iA rfl (sr_a8 S1) (j := slN (s_told s) i) rfl (slN_lt hT0 bT bL (by omega)) (by decide) (hTr i (by omega)) ?_
                    refine k_iconst (v := 1) rfl (by decide) ?_
                    refine k_isub rfl ?_
                    rw [show nI (T i) - 1 = nI (T i - 1) from by obtain ⟨y, ey⟩ : ∃ y, T i = y + 1 := ⟨T i - 1, by omega⟩; rw [ey]; exact nI_pred y]
                    refine k_ist8 rfl rfl ?_
                    refine k_aload_n rfl rfl ?_
                    refine k_getR rfl rfl (sr_o S1) (sr_trial S1) ?_
                    refine k_aload_n rfl rfl ?_
                    refine k_iload rfl rfl ?_
                    refine k_cV1 rfl cw_R_slot wd_544 (sr_o S1) rfl (by decide) (Nat.le_of_ble_eq_true rfl) ?_
                    refine c_R_slot P1 I (i := i) hT0 (by omega) ?_
                    refine k_iconst (v := nI 0) rfl (by decide) ?_
                    refine k_iS rfl (sr_a8 S1) (j := slN (s_told s) i) rfl (slN_lt hT0 bT bL (by omega)) (by decide) ?_
                    have P2 : PR g (hp_ui h1 (m + 8) (slN (s_told s) i) (nI 0)) m s := PR_tr P1
                    refine k_aload_n rfl rfl ?_
                    refine k_getR rfl rfl (sr_o S1) (sr_trial S1) ?_
                    refine k_aload_n rfl rfl ?_
                    refine k_iload rfl rfl ?_
                    refine k_iconst (v := nI 1) rfl (by decide) ?_
                    refine k_iaddN rfl ?_
                    refine k_cV1 rfl cw_R_slot wd_544 (sr_o S1) rfl (by decide) (Nat.le_of_ble_eq_true rfl) ?_
                    refine c_R_slot P2 I (i := i + 1) hT0 (by omega) ?_
                    refine k_dup2 rfl rfl rfl ?_
                    refine k_iA (x := nI (T (i + 1))) rfl (sr_a8 S1) (j := slN (s_told s) (i + 1)) rfl (slN_lt hT0 bT bL (by omega)) (by decide) (by rw [i_ui, if_neg (fun z => absurd (slN_inj hT0 bT z.2) (by omega))]; exact hTr (i + 1) (by omega)) ?_
                    refine k_iconst (v := nI 1) rfl (by decide) ?_
                    refine k_iaddN rfl ?_
                    refine k_iS rfl (sr_a8 S1) (j := slN (s_told s) (i + 1)) rfl (slN_lt hT0 bT bL (by omega)) (by decide) ?_
                    have P3 : PR g (hp_ui (hp_ui h1 (m + 8) (slN (s_told s) i) (nI 0)) (m + 8) (slN (s_told s) (i + 1)) (nI (T (i + 1) + 1))) m s := PR_tr P2
                    refine k_aload_n rfl rfl ?_
                    refine k_getR rfl rfl (sr_o S1) (sr_trial S1) ?_
                    refine k_aload_n rfl rfl ?_
                    refine k_iconst (v := nI 0) rfl (by decide) ?_
                    refine k_cV1 rfl cw_R_slot wd_544 (sr_o S1) rfl (by decide) (Nat.le_of_ble_eq_true rfl) ?_
                    refine c_R_slot P3 I (i := 0) hT0 (by omega) ?_
                    refine k_iload rfl rfl ?_
                    refine k_iS rfl (sr_a8 S1) (j := slN (s_told s) 0) rfl (slN_lt hT0 bT bL (by omega)) (by decide) ?_
                    have P4 := PR_tr (j := slN (s_told s) 0) (x := nI (T i - 1)) P3
                    refine k_goto rfl ?_
                    refine ih (nxT T i) _ _ _ _ hz6 rfl rfl ?_ (fr_tr x1 (fr_tr (fr_tr (fr_ui ⟨by omega, by omega⟩) (fr_ui ⟨by omega, by omega⟩)) (fr_ui ⟨by omega, by omega⟩))) P4 (nx_cmp hC hi1 hz0 hp) (fun x hx => ?_) (fun U hU q => ?_)
                    · have := nx_rk hC hi1 hz0 hp
                      omega
                    · rw [i_ui]
                      unfold nxT
                      by_cases e0 : x = 0
                      · rw [if_pos ⟨rfl, by rw [e0]⟩, if_pos e0]
                      · rw [if_neg (fun z => e0 (slN_inj hT0 bT z.2)), if_neg e0, i_ui]
                        by_cases e1 : x = i + 1
                        · rw [if_pos ⟨rfl, by rw [e1]⟩, if_neg (by omega), if_pos e1]
                        · rw [if_neg (fun z => e1 (slN_inj hT0 bT z.2)), i_ui]
                          by_cases e2 : x = i
                          · rw [if_pos ⟨rfl, by rw [e2]⟩, if_pos e2]
                          · rw [if_neg (fun z => e2 (slN_inj hT0 bT z.2)), if_neg e2, if_neg e1]
                            exact hTr x hx
                    · rcases cl_nx hU hC hi1 hz0 hp q with y | y
                      · exact hV U hU y
                      · rw [y]; exact hno
            suffices Hf : ∀ (qf i : Nat), i + qf = sl → (∀ x, x < i → x < sl → T x = 0) → Om g M_R_isBetter (d + 2) Q h1 125 [some (.ref m), some (.int (nI sl)), some (.int (nI n)), some (.long (lN mo)), none, some (.int (nI 1)), z6, some (.int (nI i)), z8] [] from Hf sl 0 (Nat.zero_add _) (fun x h1 => by omega)
            intro qf
            induction qf with
            | zero =>
              intro i hi hz
              refine k_iload rfl rfl ?_
              refine k_iload_n rfl rfl ?_
              refine kn_ge rfl (by omega) (by omega) (fun c128 => ?_) (fun c128 => ?_)
              · exact J151 i _ (by omega) hz (fun z => absurd z (by omega))
              · exact absurd c128 (by omega)
            | succ qf ihf =>
              intro i hi hz
              refine k_iload rfl rfl ?_
              refine k_iload_n rfl rfl ?_
              refine kn_ge rfl (by omega) (by omega) (fun c128 => ?_) (fun c128 => ?_)
              · exact absurd c128 (by omega)
              · refine k_aload_n rfl rfl ?_
                refine k_getR rfl rfl (sr_o S1) (sr_trial S1) ?_
                refine k_aload_n rfl rfl ?_
                refine k_iload rfl rfl ?_
                refine k_cV1 rfl cw_R_slot wd_544 (sr_o S1) rfl (by decide) (Nat.le_of_ble_eq_true rfl) ?_
                refine c_R_slot P1 I (i := i) hT0 (by omega) ?_
                refine k_iA rfl (sr_a8 S1) (j := slN (s_told s) i) rfl (slN_lt hT0 bT bL (by omega)) (by decide) (hTr i (by omega)) ?_
                refine k_if_ne rfl (fun c142 => ?_) (fun c142 => ?_)
                · have hTi : T i ≠ 0 := fun z => c142 (by rw [z]; rfl)
                  exact J151 i _ (by omega) hz (fun _ => hTi)
                · have hTi : T i = 0 := (nI_is0 (by have := smT_le (T := T) sl i (by omega); have := hC.2; omega)).mp c142
                  refine k_incN7 rfl hz6 ?_
                  refine k_goto rfl ?_
                  exact ihf (i + 1) (by omega) (fun x h1 h2 => by
                    by_cases e : x = i
                    · rw [e]; exact hTi
                    · exact hz x (by omega) h2)
          refine k_iload rfl rfl ?_
          refine k_if_eq rfl (fun c47 => ?_) (fun c47 => ?_)
          · exact absurd c47 (by decide)
          · refine k_iconst (v := nI 1) rfl (by decide) ?_
            refine k_ist6 rfl rfl ?_
            refine k_iconst (v := nI 0) rfl (by decide) ?_
            refine k_ist7 rfl rfl ?_
            suffices Hm : ∀ (qm l : Nat), l + qm = s_lkr s → Om g M_R_isBetter (d + 2) Q h1 56 [some (.ref m), some (.int (nI sl)), some (.int (nI n)), some (.long (lN mo)), none, some (.int (nI 1)), some (.int (bI (mbT s T l))), some (.int (nI l)), z8] [] from Hm _ 0 (Nat.zero_add _)
            intro qm
            induction qm with
            | zero =>
              intro l hl0
              have el : l = s_lkr s := by omega
              subst el
              refine k_iload rfl rfl ?_
              refine k_aload_n rfl rfl ?_
              refine k_gI rfl rfl (sr_o S1) (pr_lkr P1) ?_
              refine kn_ge rfl (by omega) (by omega) (fun c62 => ?_) (fun c62 => ?_)
              · refine k_iload rfl rfl ?_
                refine kb_eq rfl (fun c104 => ?_) (fun c104 => ?_)
                · exact J122 _ _ _ rfl (fun z => by have := z.1; rw [c104] at this; cases this)
                · refine k_aload_n rfl rfl ?_
                  refine k_aload_n rfl rfl ?_
                  refine k_getR rfl rfl (sr_o S1) (sr_trial S1) ?_
                  refine k_cV1 rfl cw_R_worth wd_507 (sr_o S1) rfl (by decide) (Nat.le_of_ble_eq_true rfl) ?_
                  refine c_R_worth (F := TF s T) P1 I (sr_a8 S1) hrow (fun l1 k1 a b => (by have := smT_le (T := T) sl _ (show l1 * s_told s + k1 < sl by rw [hsl]; exact lk_lt a b); have := hC.2; show T (l1 * s_told s + k1) ≤ 20000; omega)) ?_
                  have hwb := wo_le I (TF s T) (s_told s) (Nat.le_refl _)
                  refine k_lload_n rfl rfl ?_
                  refine klN_le rfl rfl (by omega) (by omega) (fun c116 => ?_) (fun c116 => ?_)
                  · exact J122 _ _ _ rfl (fun z => absurd z.2 (by omega))
                  · refine k_iconst (v := nI 1) rfl (by decide) ?_
                    refine k_zret rfl rfl (by decide) (Nat.le_refl _) (Nat.le_refl _) ?_
                    exact hQ h1 true x1 P1 ⟨fun _ => ⟨h0, T, hC, c104, c116⟩, fun _ => rfl⟩
              · exact absurd c62 (by omega)
            | succ qm ihm =>
              intro l hl0
              have hl : l < s_lkr s := by omega
              have hgl : gv (TF s T) l (s_told s) ≤ s_told s * 5 := gv_le _ (fun k1 b => by have := smT_le (T := T) sl _ (show l * s_told s + k1 < sl by rw [hsl]; exact lk_lt hl b); have := hC.2; show T (l * s_told s + k1) ≤ 5; omega)
              have hul : us s l ≤ 24 := Nat.le_trans (usN_le s l _) (v_hr I l hl).2
              refine k_iload rfl rfl ?_
              refine k_aload_n rfl rfl ?_
              refine k_gI rfl rfl (sr_o S1) (pr_lkr P1) ?_
              refine kn_ge rfl (by omega) (by omega) (fun c62 => ?_) (fun c62 => ?_)
              · exact absurd c62 (by omega)
              · refine k_iload rfl rfl ?_
                refine kb_eq rfl (fun c67 => ?_) (fun c67 => ?_)
                · refine k_iconst (v := nI 0) rfl (by decide) ?_
                  refine k_ist6 rfl rfl ?_
                  refine k_incN7 rfl rfl ?_
                  refine k_goto rfl ?_
                  have e9 := ihm (l + 1) (by omega)
                  simp only [mbT] at e9
                  rw [c67] at e9
                  exact e9
                · refine k_aload_n rfl rfl ?_
                  refine k_aload_n rfl rfl ?_
                  refine k_getR rfl rfl (sr_o S1) (sr_trial S1) ?_
                  refine k_iload rfl rfl ?_
                  refine k_cV2 rfl cw_R_given wd_520 (sr_o S1) rfl (by decide) (Nat.le_of_ble_eq_true rfl) ?_
                  refine c_R_given (F := TF s T) P1 I (sr_a8 S1) (by omega) (fun k1 hk1 => hrow l k1 hl hk1) ?_
                  refine k_aload_n rfl rfl ?_
                  refine k_iload rfl rfl ?_
                  refine k_cV1 rfl cw_R_use wd_524 (sr_o S1) rfl (by decide) (Nat.le_of_ble_eq_true rfl) ?_
                  refine c_R_use P1 I hl ?_
                  refine kn_gt rfl (by omega) (by omega) (fun c86 => ?_) (fun c86 => ?_)
                  · refine k_iconst (v := nI 0) rfl (by decide) ?_
                    refine k_ist6 rfl rfl ?_
                    refine k_incN7 rfl rfl ?_
                    refine k_goto rfl ?_
                    have e9 := ihm (l + 1) (by omega)
                    simp only [mbT] at e9
                    rw [c67, decide_eq_false (by omega)] at e9
                    exact e9
                  · refine k_iconst (v := nI 1) rfl (by decide) ?_
                    refine k_goto rfl ?_
                    refine k_ist6 rfl rfl ?_
                    refine k_incN7 rfl rfl ?_
                    refine k_goto rfl ?_
                    have e9 := ihm (l + 1) (by omega)
                    simp only [mbT] at e9
                    rw [c67, decide_eq_true c86] at e9
                    exact e9
      · exact absurd c14 (by omega)
    | succ qz ihz =>
      intro i h1 hi x1 P1 hz
      have S1 := pr_S P1
      refine k_iload rfl rfl ?_
      refine k_sipush (v := nI 160) rfl (by decide) ?_
      refine kn_ge rfl (by omega) (by omega) (fun c14 => ?_) (fun c14 => ?_)
      · exact absurd c14 (by omega)
      · refine k_aload_n rfl rfl ?_
        refine k_getR rfl rfl (sr_o S1) (sr_trial S1) ?_
        refine k_iload rfl rfl ?_
        refine k_iconst (v := nI 0) rfl (by decide) ?_
        refine k_iS rfl (sr_a8 S1) rfl (by omega) (by decide) ?_
        refine k_incN5 rfl rfl ?_
        refine k_goto rfl ?_
        refine ihz (i + 1) _ (by omega) (fr_tr x1 (fr_ui ⟨by omega, by omega⟩)) (PR_tr P1) (fun j hj => ?_)
        rw [i_ui]
        by_cases e : j = i
        · rw [if_pos ⟨rfl, e⟩]
        · rw [if_neg (fun z => e z.2)]; exact hz j (by omega)
  · have h0 : sl = 0 := (nI_is0 (by omega)).mp c1
    refine k_iconst (v := nI 0) rfl (by decide) ?_
    refine k_zret rfl rfl (by decide) (Nat.le_refl _) (Nat.le_refl _) ?_
    exact hQ h false fr_rf P ⟨fun z => (by cases z), fun z => absurd z.1 (by omega)⟩
end
section
theorem szN_le {s : St} (I : Inv s) : ∀ l, l ≤ s_lkr s → szN s l ≤ l * 4000
  | 0, _ => by simp [szN]
  | l + 1, h => by
    have bT := v_told I
    have bL := v_lkr I
    have h1 := szN_le I l (by omega)
    have h2 : gv (s_pl s) l (s_told s) ≤ s_told s * 100 := gv_le _ (fun k hk => v_pl I l k (by omega) (by omega))
    simp only [szN]; omega
/-- tried: no other way finds more -/
def trS (s : St) (b : Bool) : Prop := b = true ↔ s_told s * s_lkr s ≤ 12 ∧ szN s (s_lkr s) ≤ 5 ∧ ¬ (0 < s_told s * s_lkr s ∧ ∃ T, cmpT (s_told s * s_lkr s) (szN s (s_lkr s)) T ∧ okT s (wo s (s_pl s) (s_told s)) T)
theorem c_R_tried {g : Gx} {h : Hp} {m d : Nat} {s : St} {Q : Option Value → Hp → Prop} (P : PR g h m s) (I : Inv s) (hQ : ∀ (h1 : Hp) (b : Bool), hp_fr (inR m) h h1 → PR g h1 m s → trS s b → Q (some (.int (bI b))) h1) : Ct g M_R_tried (d + 3) 0 0 [.ref m] h Q := by
  have S := pr_S P
  have bT := v_told I
  have bL := v_lkr I
  refine ct_of ok_R_tried (by decide) (Nat.le_of_ble_eq_true rfl) [some (.ref m), none, none, none, none] rfl rfl ?_
  have hslb : s_told s * s_lkr s ≤ 160 := Nat.le_trans (Nat.mul_le_mul bT bL) (by decide)
  have hsz := szN_le I (s_lkr s) (Nat.le_refl _)
  have hwo := wo_le I (s_pl s) (s_told s) (Nat.le_refl _)
  refine k_aload_n rfl rfl ?_
  refine k_gI rfl rfl (sr_o S) (pr_told P) ?_
  refine k_aload_n rfl rfl ?_
  refine k_gI rfl rfl (sr_o S) (pr_lkr P) ?_
  refine k_imulN rfl ?_
  refine k_ist1 rfl rfl ?_
  refine k_aload_n rfl rfl ?_
  refine k_cV0 rfl cw_R_size wd_528 (sr_o S) rfl (by decide) (Nat.le_of_ble_eq_true rfl) ?_
  refine c_R_size P I ?_
  refine k_ist2 rfl rfl ?_
  refine k_iload_n rfl rfl ?_
  refine k_bipush (v := nI 12) rfl (by decide) ?_
  refine kn_gt rfl (by omega) (by omega) (fun c18 => ?_) (fun c18 => ?_)
  · refine k_iconst (v := nI 0) rfl (by decide) ?_
    refine k_zret rfl rfl (by decide) (Nat.le_refl _) (Nat.le_refl _) ?_
    exact hQ h false fr_rf P ⟨fun z => (by cases z), fun z => absurd z.1 (by omega)⟩
  · refine k_iload_n rfl rfl ?_
    refine k_iconst (v := nI 5) rfl (by decide) ?_
    refine kn_le rfl (by omega) (by omega) (fun c23 => ?_) (fun c23 => ?_)
    · refine k_aload_n rfl rfl ?_
      refine k_aload_n rfl rfl ?_
      refine k_getR rfl rfl (sr_o S) (sr_plan S) ?_
      refine k_cV1 rfl cw_R_worth wd_507 (sr_o S) rfl (by decide) (Nat.le_of_ble_eq_true rfl) ?_
      refine c_R_worth (F := s_pl s) P I (sr_a7 S) (fun l k h1 h2 => pr_pl P l k (by omega) (by omega)) (fun l k h1 h2 => by have := v_pl I l k (by omega) (by omega); omega) ?_
      refine k_lst3 rfl rfl ?_
      refine k_aload_n rfl rfl ?_
      refine k_iload_n rfl rfl ?_
      refine k_iload_n rfl rfl ?_
      refine k_lload_n rfl rfl ?_
      refine k_cV3 rfl cw_R_isBetter wd_540 (sr_o S) rfl (by decide) (Nat.le_of_ble_eq_true rfl) ?_
      refine c_R_isBetter P I rfl c23 (by omega) (fun h1 b x1 P1 hb => ?_)
      refine kb_ne rfl (fun c44 => ?_) (fun c44 => ?_)
      · refine k_iconst (v := nI 0) rfl (by decide) ?_
        refine k_zret rfl rfl (by decide) (Nat.le_refl _) (Nat.le_refl _) ?_
        exact hQ h1 false x1 P1 ⟨fun z => (by cases z), fun z => absurd (hb.mp c44) z.2.2⟩
      · refine k_iconst (v := nI 1) rfl (by decide) ?_
        refine k_goto rfl ?_
        refine k_zret rfl rfl (by decide) (Nat.le_refl _) (Nat.le_refl _) ?_
        exact hQ h1 true x1 P1 ⟨fun _ => ⟨by omega, c23, fun z => by have := hb.mpr z; rw [c44] at this; cases this⟩, fun _ => rfl⟩
    · refine k_iconst (v := nI 0) rfl (by decide) ?_
      refine k_zret rfl rfl (by decide) (Nat.le_refl _) (Nat.le_refl _) ?_
      exact hQ h false fr_rf P ⟨fun z => (by cases z), fun z => absurd z.2.1 (by omega)⟩
/-! BUILDING: an object at a of class c; its arrays come behind it, the i-th of type (KT i).1, length (KT i).2.1, into the field (KT i).2.2 -/
def old (a : Nat) (h h1 : Hp) : Prop := ∀ x, x < a → hp_k h1 x = hp_k h x ∧ hp_l h1 x = hp_l h x ∧ (∀ q, hp_i h1 x q = hp_i h x q) ∧ (∀ q, hp_j h1 x q = hp_j h x q) ∧ ∀ q, hp_r h1 x q = hp_r h x q
def Bd (g : Gx) (h : Hp) (a c : Nat) (KT : Nat → Nat × Nat × Nat) (fi : Nat → Int32) (fj : Nat → Int64) (fr : Nat → Option Nat) (j : Nat) (h1 : Hp) : Prop :=
  hp_n h1 = a + 1 + j ∧ isO g h1 a c ∧ old a h h1 ∧ (∀ i, i < j → isA g h1 (a + 1 + i) (KT i).1 (KT i).2.1 ∧ (∀ q, hp_i h1 (a + 1 + i) q = 0) ∧ ∀ q, hp_j h1 (a + 1 + i) q = 0) ∧ hp_i h1 a = fi ∧ hp_j h1 a = fj ∧ hp_r h1 a = fr
theorem k_hn {h : Hp} {kd : Nat ⊕ Nat} {len x : Nat} (e : x ≠ hp_n h) : hp_k (hp_new h kd len) x = hp_k h x := va_up_ne _ _ e
theorem l_hn {h : Hp} {kd : Nat ⊕ Nat} {len x : Nat} (e : x ≠ hp_n h) : hp_l (hp_new h kd len) x = hp_l h x := va_up_ne _ _ e
theorem i_hn {h : Hp} {kd : Nat ⊕ Nat} {len x q : Nat} (e : x ≠ hp_n h) : hp_i (hp_new h kd len) x q = hp_i h x q := if_neg e
theorem j_hn {h : Hp} {kd : Nat ⊕ Nat} {len x q : Nat} (e : x ≠ hp_n h) : hp_j (hp_new h kd len) x q = hp_j h x q := if_neg e
theorem r_hn {h : Hp} {kd : Nat ⊕ Nat} {len x q : Nat} (e : x ≠ hp_n h) : hp_r (hp_new h kd len) x q = hp_r h x q := if_neg e
theorem O_hn {g : Gx} {h : Hp} {kd : Nat ⊕ Nat} {len x c : Nat} (o : isO g h x c) : isO g (hp_new h kd len) x c := ⟨o.1, Nat.lt_succ_of_lt o.2.1, (k_hn (Nat.ne_of_lt o.2.1)).trans o.2.2⟩
theorem A_hn {g : Gx} {h : Hp} {kd : Nat ⊕ Nat} {len x t n : Nat} (o : isA g h x t n) : isA g (hp_new h kd len) x t n := ⟨o.1, Nat.lt_succ_of_lt o.2.1, (k_hn (Nat.ne_of_lt o.2.1)).trans o.2.2.1, (l_hn (Nat.ne_of_lt o.2.1)).trans o.2.2.2⟩
theorem old_rf {a : Nat} {h : Hp} : old a h h := fun _ _ => ⟨rfl, rfl, fun _ => rfl, fun _ => rfl, fun _ => rfl⟩
theorem old_tr {a : Nat} {h h1 h2 : Hp} (x : old a h h1) (y : old a h1 h2) : old a h h2 := fun q hq => ⟨(y q hq).1.trans (x q hq).1, (y q hq).2.1.trans (x q hq).2.1, fun z => ((y q hq).2.2.1 z).trans ((x q hq).2.2.1 z), fun z => ((y q hq).2.2.2.1 z).trans ((x q hq).2.2.2.1 z), fun z => ((y q hq).2.2.2.2 z).trans ((x q hq).2.2.2.2 z)⟩
theorem old_hn {a : Nat} {h : Hp} {kd : Nat ⊕ Nat} {len : Nat} (e : a ≤ hp_n h) : old a h (hp_new h kd len) := fun x hx => ⟨k_hn (by omega), l_hn (by omega), fun _ => i_hn (by omega), fun _ => j_hn (by omega), fun _ => r_hn (by omega)⟩
theorem old_ui {a : Nat} {h : Hp} {b k : Nat} {v : Int32} (e : a ≤ b) : old a h (hp_ui h b k v) := fun x hx => ⟨rfl, rfl, fun _ => up2_a (by omega), fun _ => rfl, fun _ => rfl⟩
theorem old_uj {a : Nat} {h : Hp} {b k : Nat} {v : Int64} (e : a ≤ b) : old a h (hp_uj h b k v) := fun x hx => ⟨rfl, rfl, fun _ => rfl, fun _ => up2_a (by omega), fun _ => rfl⟩
theorem old_ur {a : Nat} {h : Hp} {b k : Nat} {v : Option Nat} (e : a ≤ b) : old a h (hp_ur h b k v) := fun x hx => ⟨rfl, rfl, fun _ => rfl, fun _ => rfl, fun _ => up2_a (by omega)⟩
theorem Bd_0 {g : Gx} {h : Hp} {a c : Nat} {KT : Nat → Nat × Nat × Nat} (hn : hp_n h = a + 1) (ho : isO g h a c) : Bd g h a c KT (hp_i h a) (hp_j h a) (hp_r h a) 0 h := ⟨by rw [hn], ho, old_rf, fun i hi => absurd hi (Nat.not_lt_zero i), rfl, rfl, rfl⟩
theorem Bd_a {g : Gx} {h h1 : Hp} {a c j t len k : Nat} {KT : Nat → Nat × Nat × Nat} {fi : Nat → Int32} {fj : Nat → Int64} {fr : Nat → Option Nat} (B : Bd g h a c KT fi fj fr j h1) (e : KT j = (t, len, k)) : Bd g h a c KT fi fj (va_up fr k (some (a + 1 + j))) (j + 1) (hp_ur (hp_new h1 (.inr t) len) a k (some (hp_n h1))) := by
  obtain ⟨b1, b2, b3, b4, b5, b6, b7⟩ := B
  have hB : gx_B g ≤ a := b2.1
  refine ⟨by show hp_n h1 + 1 = _; rw [b1]; omega, O_hn (len := len) b2, old_tr b3 (old_tr (old_hn (by omega)) (old_ur (Nat.le_refl _))), fun i hi => ?_, ?_, ?_, ?_⟩
  · by_cases q : i = j
    · subst q
      rw [e, ← b1]
      refine ⟨⟨by omega, Nat.lt_succ_self _, va_up_self _ _ _, va_up_self _ _ _⟩, fun q => ?_, fun q => ?_⟩
      · show (if hp_n h1 = h1.1 then (0 : Int32) else _) = 0
        exact if_pos rfl
      · show (if hp_n h1 = h1.1 then (0 : Int64) else _) = 0
        exact if_pos rfl
    · obtain ⟨c1, c2, c3⟩ := b4 i (by omega)
      exact ⟨A_hn (kd := .inr t) (len := len) c1, fun q => (i_hn (kd := .inr t) (len := len) (by omega)).trans (c2 q), fun q => (j_hn (kd := .inr t) (len := len) (by omega)).trans (c3 q)⟩
  · rw [← b5]; funext q; exact i_hn (kd := .inr t) (len := len) (by omega)
  · rw [← b6]; funext q; exact j_hn (kd := .inr t) (len := len) (by omega)
  · funext q
    show up2 _ a k _ a q = _
    unfold up2 va_up
    by_cases z : q = k
    · rw [if_pos ⟨rfl, z⟩, if_pos z, b1]
    · rw [if_neg (fun y => z y.2), if_neg z, ← b7]
      exact r_hn (kd := .inr t) (len := len) (by omega)
theorem Bd_i {g : Gx} {h h1 : Hp} {a c j k : Nat} {v : Int32} {KT : Nat → Nat × Nat × Nat} {fi : Nat → Int32} {fj : Nat → Int64} {fr : Nat → Option Nat} (B : Bd g h a c KT fi fj fr j h1) : Bd g h a c KT (va_up fi k v) fj fr j (hp_ui h1 a k v) := by
  obtain ⟨b1, b2, b3, b4, b5, b6, b7⟩ := B
  refine ⟨b1, b2, old_tr b3 (old_ui (Nat.le_refl _)), fun i hi => ?_, ?_, b6, b7⟩
  · obtain ⟨c1, c2, c3⟩ := b4 i hi
    exact ⟨c1, fun q => (up2_a (by omega)).trans (c2 q), c3⟩
  · funext q
    show up2 _ a k _ a q = _
    unfold up2 va_up
    by_cases z : q = k
    · rw [if_pos ⟨rfl, z⟩, if_pos z]
    · rw [if_neg (fun y => z y.2), if_neg z, ← b5]; rfl
theorem Bd_r {g : Gx} {h h1 : Hp} {a c j k : Nat} {v : Option Nat} {KT : Nat → Nat × Nat × Nat} {fi : Nat → Int32} {fj : Nat → Int64} {fr : Nat → Option Nat} (B : Bd g h a c KT fi fj fr j h1) : Bd g h a c KT fi fj (va_up fr k v) j (hp_ur h1 a k v) := by
  obtain ⟨b1, b2, b3, b4, b5, b6, b7⟩ := B
  refine ⟨b1, b2, old_tr b3 (old_ur (Nat.le_refl _)), b4, b5, b6, ?_⟩
  funext q
  show up2 _ a k _ a q = _
  unfold up2 va_up
  by_cases z : q = k
  · rw [if_pos ⟨rfl, z⟩, if_pos z]
  · rw [if_neg (fun y => z y.2), if_neg z, ← b7]; rfl
def KTR : Nat → Nat × Nat × Nat := fun i => match i with
  | 0 => (0, 40, 2)
  | 1 => (0, 40, 3)
  | 2 => (0, 160, 4)
  | 3 => (0, 4, 7)
  | 4 => (0, 4, 8)
  | 5 => (2, 96, 9)
  | 6 => (0, 160, 10)
  | 7 => (0, 160, 11)
  | 8 => (0, 160, 12)
  | 9 => (0, 200, 14)
  | 10 => (0, 200, 15)
  | 11 => (0, 200, 16)
  | _ => (1, 200, 17)
/-- a new search over n cells -/
def iniS (n : Nat) : St := (n, 0, (fun _ => 0), (fun _ => 0), (fun _ _ => 0), 1, 0, (fun _ => 0), (fun _ => 0), (fun _ _ => false), (fun _ _ => 0), (fun _ _ => 0), 0, (fun _ => 0), (fun _ => 0), (fun _ => 0), (fun _ => 0), none, 0, 0)
def clmp (c : Int32) : Nat := if c < 1 then 1 else if 65536 < c then 65536 else c.toNatClampNeg
theorem Inv_ini {n : Nat} (h : 1 ≤ n ∧ n ≤ 65536) : Inv (iniS n) := by
  refine ⟨Nat.zero_le _, Nat.zero_le _, ⟨Nat.le_refl 1, (by decide : (1 : Nat) ≤ 4)⟩, Nat.zero_le _, h, fun k hk => absurd hk (Nat.not_lt_zero k), fun i k _ hk => absurd hk (Nat.not_lt_zero k), fun k hk => absurd hk (Nat.not_lt_zero k), fun t k _ hk => absurd hk (Nat.not_lt_zero k), fun k hk => absurd hk (Nat.not_lt_zero k), fun k hk => absurd hk (Nat.not_lt_zero k), fun _ _ _ _ => Nat.zero_le _, fun t k _ hk => absurd hk (Nat.not_lt_zero k), fun k hk => absurd hk (Nat.not_lt_zero k), fun c hc => (by cases hc), Nat.le_refl _, Nat.zero_le _⟩
theorem cl_of {c : Int32} (h : ¬ c < 1) : c = nI c.toNatClampNeg := by
  obtain ⟨k, hk, e⟩ := nI_of (x := c) (fun z => h (Int32.lt_trans z (by decide)))
  rw [e, nI_clamp hk]
theorem c_R_init {g : Gx} {h : Hp} {m d : Nat} {c : Int32} {Q : Option Value → Hp → Prop} (hn : hp_n h = m + 1) (ho : isO g h m 4) (hzi : ∀ q, hp_i h m q = 0) (hzj : ∀ q, hp_j h m q = 0) (hQ : ∀ h1, hp_n h1 = m + 14 → old m h h1 → PR g h1 m (iniS (clmp c)) → Q none h1) : Ct g M_R_init (d + 1) 13 1624 [.ref m, .int c] h Q := by
  refine ct_of ok_R_init (by decide) (Nat.le_of_ble_eq_true rfl) [some (.ref m), some (.int c)] rfl rfl ?_
  have B := Bd_0 (KT := KTR) hn ho
  have hb0 : hp_i h m = fun _ => 0 := funext hzi
  have hb1 : hp_j h m = fun _ => 0 := funext hzj
  rw [hb0, hb1] at B
  refine k_aload_n rfl rfl ?_
  refine k_objInit rfl wd_376 wd_13 wd_14 (Nat.le_of_ble_eq_true rfl) (by show _ + 12 ≤ 48 * (d + 1); simp only [List.map_nil, List.sum_nil]; omega) ?_
  refine k_aload_n rfl rfl ?_
  refine k_bipush (v := nI 40) rfl (by decide) ?_
  refine k_newa (t := 0) (len := 40) rfl rfl rfl rfl (by decide) wd_59 rfl (by decide) (Nat.le_of_ble_eq_true rfl) (Nat.le_of_ble_eq_true rfl) ?_
  refine k_putFR rfl rfl wd_380 rfl rfl rfl (O_hn B.2.1) ?_
  have B := Bd_a B (t := 0) (len := 40) (k := 2) rfl
  revert B
  generalize hp_ur _ m 2 _ = h1
  intro B
  refine k_aload_n rfl rfl ?_
  refine k_bipush (v := nI 40) rfl (by decide) ?_
  refine k_newa (t := 0) (len := 40) rfl rfl rfl rfl (by decide) wd_59 rfl (by decide) (Nat.le_of_ble_eq_true rfl) (Nat.le_of_ble_eq_true rfl) ?_
  refine k_putFR rfl rfl wd_381 rfl rfl rfl (O_hn B.2.1) ?_
  have B := Bd_a B (t := 0) (len := 40) (k := 3) rfl
  revert B
  generalize hp_ur _ m 3 _ = h2
  intro B
  refine k_aload_n rfl rfl ?_
  refine k_sipush (v := nI 160) rfl (by decide) ?_
  refine k_newa (t := 0) (len := 160) rfl rfl rfl rfl (by decide) wd_59 rfl (by decide) (Nat.le_of_ble_eq_true rfl) (Nat.le_of_ble_eq_true rfl) ?_
  refine k_putFR rfl rfl wd_382 rfl rfl rfl (O_hn B.2.1) ?_
  have B := Bd_a B (t := 0) (len := 160) (k := 4) rfl
  revert B
  generalize hp_ur _ m 4 _ = h3
  intro B
  refine k_aload_n rfl rfl ?_
  refine k_iconst (v := nI 1) rfl (by decide) ?_
  refine k_putI rfl rfl rfl B.2.1 ?_
  have B := Bd_i (k := 5) (v := nI 1) B
  revert B
  generalize hp_ui _ m 5 _ = g5
  intro B
  refine k_aload_n rfl rfl ?_
  refine k_iconst (v := nI 4) rfl (by decide) ?_
  refine k_newa (t := 0) (len := 4) rfl rfl rfl rfl (by decide) wd_59 rfl (by decide) (Nat.le_of_ble_eq_true rfl) (Nat.le_of_ble_eq_true rfl) ?_
  refine k_putFR rfl rfl wd_385 rfl rfl rfl (O_hn B.2.1) ?_
  have B := Bd_a B (t := 0) (len := 4) (k := 7) rfl
  revert B
  generalize hp_ur _ m 7 _ = h4
  intro B
  refine k_aload_n rfl rfl ?_
  refine k_iconst (v := nI 4) rfl (by decide) ?_
  refine k_newa (t := 0) (len := 4) rfl rfl rfl rfl (by decide) wd_59 rfl (by decide) (Nat.le_of_ble_eq_true rfl) (Nat.le_of_ble_eq_true rfl) ?_
  refine k_putFR rfl rfl wd_386 rfl rfl rfl (O_hn B.2.1) ?_
  have B := Bd_a B (t := 0) (len := 4) (k := 8) rfl
  revert B
  generalize hp_ur _ m 8 _ = h5
  intro B
  refine k_aload_n rfl rfl ?_
  refine k_bipush (v := nI 96) rfl (by decide) ?_
  refine k_newa (t := 2) (len := 96) rfl rfl rfl rfl (by decide) wd_85 rfl (by decide) (Nat.le_of_ble_eq_true rfl) (Nat.le_of_ble_eq_true rfl) ?_
  refine k_putFR rfl rfl wd_387 rfl rfl rfl (O_hn B.2.1) ?_
  have B := Bd_a B (t := 2) (len := 96) (k := 9) rfl
  revert B
  generalize hp_ur _ m 9 _ = h6
  intro B
  refine k_aload_n rfl rfl ?_
  refine k_sipush (v := nI 160) rfl (by decide) ?_
  refine k_newa (t := 0) (len := 160) rfl rfl rfl rfl (by decide) wd_59 rfl (by decide) (Nat.le_of_ble_eq_true rfl) (Nat.le_of_ble_eq_true rfl) ?_
  refine k_putFR rfl rfl wd_388 rfl rfl rfl (O_hn B.2.1) ?_
  have B := Bd_a B (t := 0) (len := 160) (k := 10) rfl
  revert B
  generalize hp_ur _ m 10 _ = h7
  intro B
  refine k_aload_n rfl rfl ?_
  refine k_sipush (v := nI 160) rfl (by decide) ?_
  refine k_newa (t := 0) (len := 160) rfl rfl rfl rfl (by decide) wd_59 rfl (by decide) (Nat.le_of_ble_eq_true rfl) (Nat.le_of_ble_eq_true rfl) ?_
  refine k_putFR rfl rfl wd_389 rfl rfl rfl (O_hn B.2.1) ?_
  have B := Bd_a B (t := 0) (len := 160) (k := 11) rfl
  revert B
  generalize hp_ur _ m 11 _ = h8
  intro B
  refine k_aload_n rfl rfl ?_
  refine k_sipush (v := nI 160) rfl (by decide) ?_
  refine k_newa (t := 0) (len := 160) rfl rfl rfl rfl (by decide) wd_59 rfl (by decide) (Nat.le_of_ble_eq_true rfl) (Nat.le_of_ble_eq_true rfl) ?_
  refine k_putFR rfl rfl wd_390 rfl rfl rfl (O_hn B.2.1) ?_
  have B := Bd_a B (t := 0) (len := 160) (k := 12) rfl
  revert B
  generalize hp_ur _ m 12 _ = h9
  intro B
  refine k_aload_n rfl rfl ?_
  refine k_sipush (v := nI 200) rfl (by decide) ?_
  refine k_newa (t := 0) (len := 200) rfl rfl rfl rfl (by decide) wd_59 rfl (by decide) (Nat.le_of_ble_eq_true rfl) (Nat.le_of_ble_eq_true rfl) ?_
  refine k_putFR rfl rfl wd_392 rfl rfl rfl (O_hn B.2.1) ?_
  have B := Bd_a B (t := 0) (len := 200) (k := 14) rfl
  revert B
  generalize hp_ur _ m 14 _ = h10
  intro B
  refine k_aload_n rfl rfl ?_
  refine k_sipush (v := nI 200) rfl (by decide) ?_
  refine k_newa (t := 0) (len := 200) rfl rfl rfl rfl (by decide) wd_59 rfl (by decide) (Nat.le_of_ble_eq_true rfl) (Nat.le_of_ble_eq_true rfl) ?_
  refine k_putFR rfl rfl wd_393 rfl rfl rfl (O_hn B.2.1) ?_
  have B := Bd_a B (t := 0) (len := 200) (k := 15) rfl
  revert B
  generalize hp_ur _ m 15 _ = h11
  intro B
  refine k_aload_n rfl rfl ?_
  refine k_sipush (v := nI 200) rfl (by decide) ?_
  refine k_newa (t := 0) (len := 200) rfl rfl rfl rfl (by decide) wd_59 rfl (by decide) (Nat.le_of_ble_eq_true rfl) (Nat.le_of_ble_eq_true rfl) ?_
  refine k_putFR rfl rfl wd_394 rfl rfl rfl (O_hn B.2.1) ?_
  have B := Bd_a B (t := 0) (len := 200) (k := 16) rfl
  revert B
  generalize hp_ur _ m 16 _ = h12
  intro B
  refine k_aload_n rfl rfl ?_
  refine k_sipush (v := nI 200) rfl (by decide) ?_
  refine k_newa (t := 1) (len := 200) rfl rfl rfl rfl (by decide) wd_60 rfl (by decide) (Nat.le_of_ble_eq_true rfl) (Nat.le_of_ble_eq_true rfl) ?_
  refine k_putFR rfl rfl wd_395 rfl rfl rfl (O_hn B.2.1) ?_
  have B := Bd_a B (t := 1) (len := 200) (k := 17) rfl
  revert B
  generalize hp_ur _ m 17 _ = h13
  intro B
  refine k_aload_n rfl rfl ?_
  refine k_iconst (v := -1) rfl (by decide) ?_
  refine k_putI rfl rfl rfl B.2.1 ?_
  have B := Bd_i (k := 18) (v := -1) B
  revert B
  generalize hp_ui _ m 18 _ = g18
  intro B
  have J : ∀ (v : Int32), v = nI (clmp c) → Ok g M_R_init (rmd (d + 1) 13 1624) (Zm g 13 1624 Q) 13 1624 g18 146 [some (.ref m), some (.int c)] [.int v, .ref m] := by
    intro v hv
    refine k_putFI rfl rfl wd_378 rfl rfl rfl B.2.1 ?_
    have B := Bd_i (k := 0) (v := v) B
    revert B
    generalize hp_ui g18 m 0 v = h9
    intro B
    obtain ⟨b1, b2, b3, b4, b5, b6, b7⟩ := B
    have S : ShR g h9 m := ⟨b2, (b4 0 (by decide)).1, (b4 1 (by decide)).1, (b4 2 (by decide)).1, (b4 3 (by decide)).1, (b4 4 (by decide)).1, (b4 5 (by decide)).1, (b4 6 (by decide)).1, (b4 7 (by decide)).1, (b4 8 (by decide)).1, (b4 9 (by decide)).1, (b4 10 (by decide)).1, (b4 11 (by decide)).1, (b4 12 (by decide)).1, (by rw [b7]; rfl), (by rw [b7]; rfl), (by rw [b7]; rfl), (by rw [b7]; rfl), (by rw [b7]; rfl), (by rw [b7]; rfl), (by rw [b7]; rfl), (by rw [b7]; rfl), (by rw [b7]; rfl), (by rw [b7]; rfl), (by rw [b7]; rfl), (by rw [b7]; rfl), (by rw [b7]; rfl)⟩
    have P : PR g h9 m (iniS (clmp c)) := ⟨S, (by rw [b5]; exact hv), (by rw [b5]; rfl), fun k z => absurd z (Nat.not_lt_zero k), fun k z => absurd z (Nat.not_lt_zero k), fun t k _ z => absurd z (Nat.not_lt_zero k), (by rw [b5]; rfl), (by rw [b5]; rfl), fun k z => absurd z (Nat.not_lt_zero k), fun k z => absurd z (Nat.not_lt_zero k), fun l q _ _ => (b4 5 (by decide)).2.1 _, fun l q _ _ => (b4 6 (by decide)).2.1 _, fun t k _ z => absurd z (Nat.not_lt_zero k), (by rw [b5]; rfl), fun k z => absurd z (Nat.not_lt_zero k), fun k z => absurd z (Nat.not_lt_zero k), fun k z => absurd z (Nat.not_lt_zero k), fun k z => absurd z (Nat.not_lt_zero k), (by rw [b5]; rfl), (by rw [b6]; rfl), (by rw [b6]; rfl)⟩
    refine k_vret rfl rfl (Nat.le_refl _) (Nat.le_refl _) ?_
    exact hQ h9 b1 b3 P
  refine k_aload_n rfl rfl ?_
  refine k_iload_n rfl rfl ?_
  refine k_iconst (v := 1) rfl (by decide) ?_
  refine k_icmp_ge rfl (fun c127 => ?_) (fun c127 => ?_)
  · refine k_iload_n rfl rfl ?_
    refine k_ldc rfl wd_377 ?_
    refine k_icmp_le rfl (fun c137 => ?_) (fun c137 => ?_)
    · refine k_iload_n rfl rfl ?_
      exact J _ (by unfold clmp; rw [if_neg (Int32.not_lt.mpr c127), if_neg (Int32.not_lt.mpr c137)]; exact cl_of (Int32.not_lt.mpr c127))
    · refine k_ldc rfl wd_377 ?_
      refine k_goto rfl ?_
      exact J _ (by unfold clmp; rw [if_neg (Int32.not_lt.mpr c127), if_pos (Int32.not_le.mp c137)]; decide)
  · refine k_iconst (v := 1) rfl (by decide) ?_
    refine k_goto rfl ?_
    exact J _ (by unfold clmp; rw [if_pos (Int32.not_le.mp c127)]; rfl)
end
section
/-! THE CLASS: an object at o; rates o + 1; told cells o + 2; cell j at ca o j with five arrays; lookers o + 243; looker l at la o l with one array; the log at o + 252 with five arrays; gone o + 258 -/
def ca (o j : Nat) : Nat := o + 3 + 6 * j
def la (o l : Nat) : Nat := o + 244 + 2 * l
def cS (g : Gx) (h : Hp) (o j : Nat) : Prop := isO g h (ca o j) 0 ∧ isA g h (ca o j + 1) 0 4 ∧ isA g h (ca o j + 2) 0 4 ∧ isA g h (ca o j + 3) 0 4 ∧ isA g h (ca o j + 4) 0 4 ∧ isA g h (ca o j + 5) 1 4 ∧ True ∧ hp_r h (ca o j) 0 = some (ca o j + 1) ∧ hp_r h (ca o j) 1 = some (ca o j + 2) ∧ hp_r h (ca o j) 2 = some (ca o j + 3) ∧ hp_r h (ca o j) 3 = some (ca o j + 4) ∧ hp_r h (ca o j) 4 = some (ca o j + 5)
def lS (g : Gx) (h : Hp) (o l : Nat) : Prop := isO g h (la o l) 2 ∧ isA g h (la o l + 1) 2 24 ∧ hp_r h (la o l) 0 = some (la o l + 1) ∧ hp_r h (o + 243) l = some (la o l)
def gS (g : Gx) (h : Hp) (o : Nat) : Prop := isO g h (o + 252) 1 ∧ isA g h (o + 253) 0 200 ∧ isA g h (o + 254) 0 200 ∧ isA g h (o + 255) 0 200 ∧ isA g h (o + 256) 1 200 ∧ isA g h (o + 257) 0 200 ∧ hp_r h (o + 252) 0 = some (o + 253) ∧ hp_r h (o + 252) 1 = some (o + 254) ∧ hp_r h (o + 252) 2 = some (o + 255) ∧ hp_r h (o + 252) 3 = some (o + 256) ∧ hp_r h (o + 252) 4 = some (o + 257)
def ShC (g : Gx) (h : Hp) (o : Nat) : Prop := isO g h o 3 ∧ isA g h (o + 1) 0 4 ∧ isA g h (o + 2) 3 40 ∧ (∀ j, j < 40 → cS g h o j) ∧ isA g h (o + 243) 4 4 ∧ (∀ l, l < 4 → lS g h o l) ∧ gS g h o ∧ isA g h (o + 258) 2 720 ∧ hp_r h o 1 = some (o + 2) ∧ hp_r h o 3 = some (o + 243) ∧ hp_r h o 5 = some (o + 1) ∧ hp_r h o 7 = some (o + 252) ∧ hp_r h o 11 = some (o + 258)
theorem sc_o {g : Gx} {h : Hp} {o : Nat} (S : ShC g h o) : isO g h o 3 := S.1
theorem sc_a1 {g : Gx} {h : Hp} {o : Nat} (S : ShC g h o) : isA g h (o + 1) 0 4 := S.2.1
theorem sc_a2 {g : Gx} {h : Hp} {o : Nat} (S : ShC g h o) : isA g h (o + 2) 3 40 := S.2.2.1
theorem sc_c {g : Gx} {h : Hp} {o : Nat} (S : ShC g h o) : ∀ j, j < 40 → cS g h o j := S.2.2.2.1
theorem sc_a243 {g : Gx} {h : Hp} {o : Nat} (S : ShC g h o) : isA g h (o + 243) 4 4 := S.2.2.2.2.1
theorem sc_l {g : Gx} {h : Hp} {o : Nat} (S : ShC g h o) : ∀ l, l < 4 → lS g h o l := S.2.2.2.2.2.1
theorem sc_g {g : Gx} {h : Hp} {o : Nat} (S : ShC g h o) : gS g h o := S.2.2.2.2.2.2.1
theorem sc_a258 {g : Gx} {h : Hp} {o : Nat} (S : ShC g h o) : isA g h (o + 258) 2 720 := S.2.2.2.2.2.2.2.1
theorem sc_told {g : Gx} {h : Hp} {o : Nat} (S : ShC g h o) : hp_r h o 1 = some (o + 2) := S.2.2.2.2.2.2.2.2.1
theorem sc_lkrs {g : Gx} {h : Hp} {o : Nat} (S : ShC g h o) : hp_r h o 3 = some (o + 243) := S.2.2.2.2.2.2.2.2.2.1
theorem sc_rates {g : Gx} {h : Hp} {o : Nat} (S : ShC g h o) : hp_r h o 5 = some (o + 1) := S.2.2.2.2.2.2.2.2.2.2.1
theorem sc_looks {g : Gx} {h : Hp} {o : Nat} (S : ShC g h o) : hp_r h o 7 = some (o + 252) := S.2.2.2.2.2.2.2.2.2.2.2.1
theorem sc_gone {g : Gx} {h : Hp} {o : Nat} (S : ShC g h o) : hp_r h o 11 = some (o + 258) := S.2.2.2.2.2.2.2.2.2.2.2.2
def inC (o : Nat) (a : Nat) : Prop := o ≤ a ∧ a < o + 259
/-- the shape stays where kinds stay and references but those of the told cells' row -/
theorem sc_fr {g : Gx} {P : Nat → Prop} {h h1 : Hp} {o : Nat} (S : ShC g h o) (x : hp_fr P h h1) (e : ∀ a, inC o a → a ≠ o + 2 → ∀ k, hp_r h1 a k = hp_r h a k) : ShC g h1 o := by
  have e0 : ∀ a, o ≤ a → a < o + 259 → a ≠ o + 2 → ∀ k, hp_r h1 a k = hp_r h a k := fun a h1 h2 h3 k => e a ⟨h1, h2⟩ h3 k
  refine ⟨fr_O x (sc_o S), fr_A x (sc_a1 S), fr_A x (sc_a2 S), fun j hj => ?_, fr_A x (sc_a243 S), fun l hl => ?_, ?_, fr_A x (sc_a258 S), ?_, ?_, ?_, ?_, ?_⟩
  · obtain ⟨a0, a1, a2, a3, a4, a5, r0, r1, r2, r3, r4, r5⟩ := sc_c S j hj
    have er : ∀ k, hp_r h1 (ca o j) k = hp_r h (ca o j) k := e0 _ (by unfold ca; omega) (by unfold ca; omega) (by unfold ca; omega)
    exact ⟨fr_O x a0, fr_A x a1, fr_A x a2, fr_A x a3, fr_A x a4, fr_A x a5, trivial, (er 0).trans r1, (er 1).trans r2, (er 2).trans r3, (er 3).trans r4, (er 4).trans r5⟩
  · obtain ⟨a0, a1, r0, r1⟩ := sc_l S l hl
    exact ⟨fr_O x a0, fr_A x a1, (e0 _ (by unfold la; omega) (by unfold la; omega) (by unfold la; omega) 0).trans r0, (e0 _ (by omega) (by omega) (by omega) l).trans r1⟩
  · obtain ⟨a0, a1, a2, a3, a4, a5, r0, r1, r2, r3, r4⟩ := sc_g S
    have er : ∀ k, hp_r h1 (o + 252) k = hp_r h (o + 252) k := e0 _ (by omega) (by omega) (by omega)
    exact ⟨fr_O x a0, fr_A x a1, fr_A x a2, fr_A x a3, fr_A x a4, fr_A x a5, (er 0).trans r0, (er 1).trans r1, (er 2).trans r2, (er 3).trans r3, (er 4).trans r4⟩
  · exact (e0 o (by omega) (by omega) (by omega) 1).trans (sc_told S)
  · exact (e0 o (by omega) (by omega) (by omega) 3).trans (sc_lkrs S)
  · exact (e0 o (by omega) (by omega) (by omega) 5).trans (sc_rates S)
  · exact (e0 o (by omega) (by omega) (by omega) 7).trans (sc_looks S)
  · exact (e0 o (by omega) (by omega) (by omega) 11).trans (sc_gone S)
/-- the told cell i stands in the cell p i -/
def ofp (o : Nat) (p : Nat → Nat) (i : Nat) : Nat := ca o (p i)
def pm (p : Nat → Nat) : Prop := (∀ i, i < 40 → p i < 40) ∧ ∀ i j, i < 40 → j < 40 → p i = p j → i = j
/-- what a told cell holds -/
def cT (h : Hp) (a : Nat) (s : St) (i : Nat) : Prop := hp_i h a 5 = nI (s_num s i) ∧ hp_i h a 6 = nI (s_ar s i) ∧ hp_i h a 7 = nI (720 / s_ar s i) ∧ (∀ t, t < 4 → hp_i h (a + 1) t = nI (s_cn s t i)) ∧ (∀ l, l < 4 → hp_i h (a + 2) l = nI (s_pl s l i)) ∧ ∀ l, l < 4 → hp_i h (a + 3) l = nI (s_ld s l i)
/-- what a spare cell holds -/
def cF (h : Hp) (a : Nat) : Prop := hp_i h a 6 = nI 60 ∧ hp_i h a 7 = nI 12 ∧ (∀ t, t < 4 → hp_i h (a + 1) t = 0) ∧ (∀ l, l < 4 → hp_i h (a + 2) l = 0) ∧ ∀ l, l < 4 → hp_i h (a + 3) l = 0
/-- what a looker holds -/
def lT (h : Hp) (a : Nat) (s : St) (l : Nat) : Prop := (l < s_lkr s → hp_i h a 1 = nI (s_hr s l) ∧ hp_i h a 2 = nI (us s l)) ∧ hp_i h a 3 = nI (gv (s_pl s) l (s_told s)) ∧ hp_i h a 4 = 0 ∧ (∀ q, q < 24 → hp_i h (a + 1) q = bI (s_bd s l q)) ∧ (s_lkr s ≤ l → ∀ q, q < 24 → s_bd s l q = false)
def gT (h : Hp) (o : Nat) (s : St) : Prop := hp_i h (o + 252) 5 = nI (s_lks s) ∧ (∀ q, q < s_lks s → hp_i h (o + 253) q = nI (s_gl s q) ∧ hp_i h (o + 254) q = nI (s_gc s q) ∧ hp_i h (o + 255) q = nI (s_gh s q) ∧ hp_j h (o + 256) q = lN (s_gt s q)) ∧ ∀ q, q < s_lks s → ∃ b, b < s_lks s ∧ hp_i h (o + 257) q = nI b ∧ bfL s b (s_lks s) = q
def PC (g : Gx) (h : Hp) (o : Nat) (p : Nat → Nat) (s : St) : Prop := ShC g h o ∧ (∀ i, i < 40 → hp_r h (o + 2) i = some (ca o (p i))) ∧ (pm p ∧ s_told s ≤ 40) ∧
  (∀ i, i < s_told s → cT h (ca o (p i)) s i) ∧ (∀ i, s_told s ≤ i → i < 40 → cF h (ca o (p i))) ∧ (∀ j, j < 40 → ∀ l, l < 4 → hp_i h (ca o j + 4) l = 0) ∧
  (∀ l, l < 4 → hp_i h (o + 1) l = nI (if l < s_lkr s then s_rt s l else 0)) ∧ (∀ l, l < 4 → lT h (la o l) s l) ∧ gT h o s ∧
  hp_i h o 0 = nI (s_cells s) ∧ hp_i h o 2 = nI (s_told s) ∧ hp_i h o 4 = nI (s_lkr s) ∧ hp_i h o 6 = nI (s_things s) ∧ hp_i h o 8 = sI (s_seen s) ∧ hp_j h o 9 = lN (s_ab s) ∧ hp_j h o 10 = lN (s_bl s)
theorem pc_S {g : Gx} {h : Hp} {o : Nat} {p : Nat → Nat} {s : St} (P : PC g h o p s) : ShC g h o := P.1
theorem pc_r {g : Gx} {h : Hp} {o : Nat} {p : Nat → Nat} {s : St} (P : PC g h o p s) : ∀ i, i < 40 → hp_r h (o + 2) i = some (ca o (p i)) := P.2.1
theorem pc_m {g : Gx} {h : Hp} {o : Nat} {p : Nat → Nat} {s : St} (P : PC g h o p s) : pm p := P.2.2.1.1
theorem pc_told40 {g : Gx} {h : Hp} {o : Nat} {p : Nat → Nat} {s : St} (P : PC g h o p s) : s_told s ≤ 40 := P.2.2.1.2
theorem pc_t {g : Gx} {h : Hp} {o : Nat} {p : Nat → Nat} {s : St} (P : PC g h o p s) : ∀ i, i < s_told s → cT h (ca o (p i)) s i := P.2.2.2.1
theorem pc_f {g : Gx} {h : Hp} {o : Nat} {p : Nat → Nat} {s : St} (P : PC g h o p s) : ∀ i, s_told s ≤ i → i < 40 → cF h (ca o (p i)) := P.2.2.2.2.1
theorem pc_z {g : Gx} {h : Hp} {o : Nat} {p : Nat → Nat} {s : St} (P : PC g h o p s) : ∀ j, j < 40 → ∀ l, l < 4 → hp_i h (ca o j + 4) l = 0 := P.2.2.2.2.2.1
theorem pc_rt {g : Gx} {h : Hp} {o : Nat} {p : Nat → Nat} {s : St} (P : PC g h o p s) : ∀ l, l < 4 → hp_i h (o + 1) l = nI (if l < s_lkr s then s_rt s l else 0) := P.2.2.2.2.2.2.1
theorem pc_l {g : Gx} {h : Hp} {o : Nat} {p : Nat → Nat} {s : St} (P : PC g h o p s) : ∀ l, l < 4 → lT h (la o l) s l := P.2.2.2.2.2.2.2.1
theorem pc_g {g : Gx} {h : Hp} {o : Nat} {p : Nat → Nat} {s : St} (P : PC g h o p s) : gT h o s := P.2.2.2.2.2.2.2.2.1
theorem pc_cells {g : Gx} {h : Hp} {o : Nat} {p : Nat → Nat} {s : St} (P : PC g h o p s) : hp_i h o 0 = nI (s_cells s) := P.2.2.2.2.2.2.2.2.2.1
theorem pc_told {g : Gx} {h : Hp} {o : Nat} {p : Nat → Nat} {s : St} (P : PC g h o p s) : hp_i h o 2 = nI (s_told s) := P.2.2.2.2.2.2.2.2.2.2.1
theorem pc_lkr {g : Gx} {h : Hp} {o : Nat} {p : Nat → Nat} {s : St} (P : PC g h o p s) : hp_i h o 4 = nI (s_lkr s) := P.2.2.2.2.2.2.2.2.2.2.2.1
theorem pc_things {g : Gx} {h : Hp} {o : Nat} {p : Nat → Nat} {s : St} (P : PC g h o p s) : hp_i h o 6 = nI (s_things s) := P.2.2.2.2.2.2.2.2.2.2.2.2.1
theorem pc_seen {g : Gx} {h : Hp} {o : Nat} {p : Nat → Nat} {s : St} (P : PC g h o p s) : hp_i h o 8 = sI (s_seen s) := P.2.2.2.2.2.2.2.2.2.2.2.2.2.1
theorem pc_ab {g : Gx} {h : Hp} {o : Nat} {p : Nat → Nat} {s : St} (P : PC g h o p s) : hp_j h o 9 = lN (s_ab s) := P.2.2.2.2.2.2.2.2.2.2.2.2.2.2.1
theorem pc_bl {g : Gx} {h : Hp} {o : Nat} {p : Nat → Nat} {s : St} (P : PC g h o p s) : hp_j h o 10 = lN (s_bl s) := P.2.2.2.2.2.2.2.2.2.2.2.2.2.2.2
/-- the picture rests on its own cells alone -/
theorem pc_eq {g : Gx} {h h1 : Hp} {o : Nat} {p : Nat → Nat} {s : St} (P : PC g h o p s) (S1 : ShC g h1 o) (hi : ∀ a, o ≤ a → a < o + 258 → ∀ j, hp_i h1 a j = hp_i h a j) (hj : ∀ a, o ≤ a → a < o + 258 → ∀ j, hp_j h1 a j = hp_j h a j) (hr : ∀ a, o ≤ a → a < o + 259 → ∀ j, hp_r h1 a j = hp_r h a j) : PC g h1 o p s := by
  have hp := (pc_m P).1
  refine ⟨S1, fun i h2 => (hr _ (by omega) (by omega) i).trans (pc_r P i h2), ⟨pc_m P, pc_told40 P⟩, fun i h2 => ?_, fun i h2 h3 => ?_, fun j h2 l h3 => (hi _ (by unfold ca; omega) (by unfold ca; omega) l).trans (pc_z P j h2 l h3), fun l h2 => (hi _ (by omega) (by omega) l).trans (pc_rt P l h2), fun l h2 => ?_, ?_, (hi o (by omega) (by omega) 0).trans (pc_cells P), (hi o (by omega) (by omega) 2).trans (pc_told P), (hi o (by omega) (by omega) 4).trans (pc_lkr P), (hi o (by omega) (by omega) 6).trans (pc_things P), (hi o (by omega) (by omega) 8).trans (pc_seen P), (hj o (by omega) (by omega) 9).trans (pc_ab P), (hj o (by omega) (by omega) 10).trans (pc_bl P)⟩
  · obtain ⟨a1, a2, a3, a4, a5, a6⟩ := pc_t P i h2
    have hpi : s_told s ≤ 40 ∨ 40 < s_told s := by omega
    by_cases h4 : i < 40
    · have hb := hp i h4
      have q : ∀ k, k < 6 → ∀ j, hp_i h1 (ca o (p i) + k) j = hp_i h (ca o (p i) + k) j := fun k hk j => hi _ (by unfold ca; omega) (by unfold ca; omega) j
      exact ⟨(q 0 (by omega) 5).trans a1, (q 0 (by omega) 6).trans a2, (q 0 (by omega) 7).trans a3, fun t ht => (q 1 (by omega) t).trans (a4 t ht), fun t ht => (q 2 (by omega) t).trans (a5 t ht), fun t ht => (q 3 (by omega) t).trans (a6 t ht)⟩
    · exact absurd h4 (by have := pc_told40 P; omega)
  · obtain ⟨a2, a3, a4, a5, a6⟩ := pc_f P i h2 h3
    have hb := hp i h3
    have q : ∀ k, k < 6 → ∀ j, hp_i h1 (ca o (p i) + k) j = hp_i h (ca o (p i) + k) j := fun k hk j => hi _ (by unfold ca; omega) (by unfold ca; omega) j
    exact ⟨(q 0 (by omega) 6).trans a2, (q 0 (by omega) 7).trans a3, fun t ht => (q 1 (by omega) t).trans (a4 t ht), fun t ht => (q 2 (by omega) t).trans (a5 t ht), fun t ht => (q 3 (by omega) t).trans (a6 t ht)⟩
  · obtain ⟨a1, a2, a3, a4, a5⟩ := pc_l P l h2
    have q : ∀ k, k < 2 → ∀ j, hp_i h1 (la o l + k) j = hp_i h (la o l + k) j := fun k hk j => hi _ (by unfold la; omega) (by unfold la; omega) j
    exact ⟨fun z => ⟨(q 0 (by omega) 1).trans (a1 z).1, (q 0 (by omega) 2).trans (a1 z).2⟩, (q 0 (by omega) 3).trans a2, (q 0 (by omega) 4).trans a3, fun t ht => (q 1 (by omega) t).trans (a4 t ht), a5⟩
  · obtain ⟨a1, a2, a3⟩ := pc_g P
    refine ⟨(hi _ (by omega) (by omega) 5).trans a1, fun q hq => ?_, fun q hq => ?_⟩
    · obtain ⟨b1, b2, b3, b4⟩ := a2 q hq
      exact ⟨(hi _ (by omega) (by omega) q).trans b1, (hi _ (by omega) (by omega) q).trans b2, (hi _ (by omega) (by omega) q).trans b3, (hj _ (by omega) (by omega) q).trans b4⟩
    · obtain ⟨b, b1, b2, b3⟩ := a3 q hq
      exact ⟨b, b1, (hi _ (by omega) (by omega) q).trans b2, b3⟩
theorem pc_fr0 {g : Gx} {h h1 : Hp} {o : Nat} {p : Nat → Nat} {s : St} {B : Nat → Prop} (P : PC g h o p s) (x : hp_fr B h h1) (e : ∀ a, o ≤ a → a < o + 258 → ¬ B a) (hr0 : ∀ a, inC o a → ∀ k, hp_r h1 a k = hp_r h a k) : PC g h1 o p s :=
  pc_eq P (sc_fr (pc_S P) x (fun a ha _ k => hr0 a ha k)) (fun a h1 h2 j => fr_i x (e a h1 h2) j) (fun a h1 h2 j => fr_j x (e a h1 h2) j) (fun a h1 h2 j => hr0 a ⟨h1, h2⟩ j)
theorem pc_fr {g : Gx} {h h1 : Hp} {o : Nat} {p : Nat → Nat} {s : St} {B : Nat → Prop} (P : PC g h o p s) (x : hp_fr B h h1) (e : ∀ a, inC o a → ¬ B a) : PC g h1 o p s :=
  pc_fr0 P x (fun a h1 h2 => e a ⟨h1, by omega⟩) (fun a ha k => fr_r x (e a ha) k)
/-- the row of squares gone over is no part of it -/
theorem pc_gone {g : Gx} {h h1 : Hp} {o : Nat} {p : Nat → Nat} {s : St} (P : PC g h o p s) (x : hp_fr (fun a => a = o + 258) h h1) (hr : hp_r h1 = hp_r h) : PC g h1 o p s :=
  pc_fr0 P x (fun a h1 h2 => by omega) (fun a _ k => by rw [hr])
/-- nor are the longs of the cells: gains, standings -/
theorem pc_uj {g : Gx} {h h1 : Hp} {o : Nat} {p : Nat → Nat} {s : St} (P : PC g h o p s) (x : hp_fr (inC o) h h1) (hi : hp_i h1 = hp_i h) (hr : hp_r h1 = hp_r h) (hj0 : hp_j h1 o = hp_j h o) (hj1 : hp_j h1 (o + 256) = hp_j h (o + 256)) : PC g h1 o p s := by
  obtain ⟨a1, a2, a3⟩ := pc_g P
  refine ⟨sc_fr (pc_S P) x (fun a _ _ k => by rw [hr]), by rw [hr]; exact pc_r P, ⟨pc_m P, pc_told40 P⟩, ?_, ?_, by rw [hi]; exact pc_z P, by rw [hi]; exact pc_rt P, ?_, ⟨by rw [hi]; exact a1, by rw [hi, hj1]; exact a2, by rw [hi]; exact a3⟩, by rw [hi]; exact pc_cells P, by rw [hi]; exact pc_told P, by rw [hi]; exact pc_lkr P, by rw [hi]; exact pc_things P, by rw [hi]; exact pc_seen P, by rw [hj0]; exact pc_ab P, by rw [hj0]; exact pc_bl P⟩
  · unfold cT; rw [hi]; exact pc_t P
  · unfold cF; rw [hi]; exact pc_f P
  · unfold lT; rw [hi]; exact pc_l P
/-- the picture without the plan -/
def cN (h : Hp) (a : Nat) (s : St) (i : Nat) : Prop := hp_i h a 5 = nI (s_num s i) ∧ hp_i h a 6 = nI (s_ar s i) ∧ hp_i h a 7 = nI (720 / s_ar s i) ∧ (∀ t, t < 4 → hp_i h (a + 1) t = nI (s_cn s t i)) ∧ ∀ l, l < 4 → hp_i h (a + 3) l = nI (s_ld s l i)
def lQ (h : Hp) (a : Nat) (s : St) (l : Nat) : Prop := (l < s_lkr s → hp_i h a 1 = nI (s_hr s l) ∧ hp_i h a 2 = nI (us s l)) ∧ hp_i h a 4 = 0 ∧ (∀ q, q < 24 → hp_i h (a + 1) q = bI (s_bd s l q)) ∧ (s_lkr s ≤ l → ∀ q, q < 24 → s_bd s l q = false)
theorem cN_tr {h h1 : Hp} {a : Nat} {s : St} {i : Nat} (x : cN h a s i) (e : ∀ k, k < 4 → k ≠ 2 → ∀ j, hp_i h1 (a + k) j = hp_i h (a + k) j) : cN h1 a s i := by
  obtain ⟨a1, a2, a3, a4, a6⟩ := x
  exact ⟨(e 0 (by omega) (by omega) 5).trans a1, (e 0 (by omega) (by omega) 6).trans a2, (e 0 (by omega) (by omega) 7).trans a3, fun t ht => (e 1 (by omega) (by omega) t).trans (a4 t ht), fun t ht => (e 3 (by omega) (by omega) t).trans (a6 t ht)⟩
theorem cF_tr {h h1 : Hp} {a : Nat} (x : cF h a) (e : ∀ k, k < 4 → ∀ j, j ≠ 5 → hp_i h1 (a + k) j = hp_i h (a + k) j) : cF h1 a := by
  obtain ⟨a2, a3, a4, a5, a6⟩ := x
  exact ⟨(e 0 (by omega) 6 (by omega)).trans a2, (e 0 (by omega) 7 (by omega)).trans a3, fun t ht => (e 1 (by omega) t (by omega)).trans (a4 t ht), fun t ht => (e 2 (by omega) t (by omega)).trans (a5 t ht), fun t ht => (e 3 (by omega) t (by omega)).trans (a6 t ht)⟩
theorem lQ_tr {h h1 : Hp} {a : Nat} {s : St} {l : Nat} (x : lQ h a s l) (e0 : ∀ j, j ≠ 3 → hp_i h1 a j = hp_i h a j) (e1 : ∀ j, hp_i h1 (a + 1) j = hp_i h (a + 1) j) : lQ h1 a s l := by
  obtain ⟨a1, a3, a4, a5⟩ := x
  exact ⟨fun z => ⟨(e0 1 (by omega)).trans (a1 z).1, (e0 2 (by omega)).trans (a1 z).2⟩, (e0 4 (by omega)).trans a3, fun t ht => (e1 t).trans (a4 t ht), a5⟩
theorem gT_tr {h h1 : Hp} {o : Nat} {s : St} (x : gT h o s) (ei : ∀ k, 252 ≤ k → k < 258 → ∀ j, hp_i h1 (o + k) j = hp_i h (o + k) j) (ej : ∀ j, hp_j h1 (o + 256) j = hp_j h (o + 256) j) : gT h1 o s := by
  obtain ⟨a1, a2, a3⟩ := x
  refine ⟨(ei 252 (by omega) (by omega) 5).trans a1, fun q hq => ?_, fun q hq => ?_⟩
  · obtain ⟨b1, b2, b3, b4⟩ := a2 q hq
    exact ⟨(ei 253 (by omega) (by omega) q).trans b1, (ei 254 (by omega) (by omega) q).trans b2, (ei 255 (by omega) (by omega) q).trans b3, (ej q).trans b4⟩
  · obtain ⟨b, b1, b2, b3⟩ := a3 q hq
    exact ⟨b, b1, (ei 257 (by omega) (by omega) q).trans b2, b3⟩
def PN (g : Gx) (h : Hp) (o : Nat) (p : Nat → Nat) (s : St) : Prop := ShC g h o ∧ (∀ i, i < 40 → hp_r h (o + 2) i = some (ca o (p i))) ∧ (pm p ∧ s_told s ≤ 40) ∧ 
  (∀ i, i < s_told s → cN h (ca o (p i)) s i) ∧ (∀ i, s_told s ≤ i → i < 40 → cF h (ca o (p i))) ∧ (∀ j, j < 40 → ∀ l, l < 4 → hp_i h (ca o j + 4) l = 0) ∧
  (∀ l, l < 4 → hp_i h (o + 1) l = nI (if l < s_lkr s then s_rt s l else 0)) ∧ (∀ l, l < 4 → lQ h (la o l) s l) ∧ gT h o s ∧
  hp_i h o 0 = nI (s_cells s) ∧ hp_i h o 2 = nI (s_told s) ∧ hp_i h o 4 = nI (s_lkr s) ∧ hp_i h o 6 = nI (s_things s) ∧ hp_i h o 8 = sI (s_seen s) ∧ hp_j h o 9 = lN (s_ab s) ∧ hp_j h o 10 = lN (s_bl s)
theorem pn_S {g : Gx} {h : Hp} {o : Nat} {p : Nat → Nat} {s : St} (N : PN g h o p s) : ShC g h o := N.1
theorem pn_r {g : Gx} {h : Hp} {o : Nat} {p : Nat → Nat} {s : St} (N : PN g h o p s) : ∀ i, i < 40 → hp_r h (o + 2) i = some (ca o (p i)) := N.2.1
theorem pn_m {g : Gx} {h : Hp} {o : Nat} {p : Nat → Nat} {s : St} (N : PN g h o p s) : pm p := N.2.2.1.1
theorem pn_t {g : Gx} {h : Hp} {o : Nat} {p : Nat → Nat} {s : St} (N : PN g h o p s) : ∀ i, i < s_told s → cN h (ca o (p i)) s i := N.2.2.2.1
theorem pn_f {g : Gx} {h : Hp} {o : Nat} {p : Nat → Nat} {s : St} (N : PN g h o p s) : ∀ i, s_told s ≤ i → i < 40 → cF h (ca o (p i)) := N.2.2.2.2.1
theorem pn_z {g : Gx} {h : Hp} {o : Nat} {p : Nat → Nat} {s : St} (N : PN g h o p s) : ∀ j, j < 40 → ∀ l, l < 4 → hp_i h (ca o j + 4) l = 0 := N.2.2.2.2.2.1
theorem pn_rt {g : Gx} {h : Hp} {o : Nat} {p : Nat → Nat} {s : St} (N : PN g h o p s) : ∀ l, l < 4 → hp_i h (o + 1) l = nI (if l < s_lkr s then s_rt s l else 0) := N.2.2.2.2.2.2.1
theorem pn_l {g : Gx} {h : Hp} {o : Nat} {p : Nat → Nat} {s : St} (N : PN g h o p s) : ∀ l, l < 4 → lQ h (la o l) s l := N.2.2.2.2.2.2.2.1
theorem pn_g {g : Gx} {h : Hp} {o : Nat} {p : Nat → Nat} {s : St} (N : PN g h o p s) : gT h o s := N.2.2.2.2.2.2.2.2.1
theorem pn_cells {g : Gx} {h : Hp} {o : Nat} {p : Nat → Nat} {s : St} (N : PN g h o p s) : hp_i h o 0 = nI (s_cells s) := N.2.2.2.2.2.2.2.2.2.1
theorem pn_told {g : Gx} {h : Hp} {o : Nat} {p : Nat → Nat} {s : St} (N : PN g h o p s) : hp_i h o 2 = nI (s_told s) := N.2.2.2.2.2.2.2.2.2.2.1
theorem pn_lkr {g : Gx} {h : Hp} {o : Nat} {p : Nat → Nat} {s : St} (N : PN g h o p s) : hp_i h o 4 = nI (s_lkr s) := N.2.2.2.2.2.2.2.2.2.2.2.1
theorem pn_things {g : Gx} {h : Hp} {o : Nat} {p : Nat → Nat} {s : St} (N : PN g h o p s) : hp_i h o 6 = nI (s_things s) := N.2.2.2.2.2.2.2.2.2.2.2.2.1
theorem pn_seen {g : Gx} {h : Hp} {o : Nat} {p : Nat → Nat} {s : St} (N : PN g h o p s) : hp_i h o 8 = sI (s_seen s) := N.2.2.2.2.2.2.2.2.2.2.2.2.2.1
theorem pn_ab {g : Gx} {h : Hp} {o : Nat} {p : Nat → Nat} {s : St} (N : PN g h o p s) : hp_j h o 9 = lN (s_ab s) := N.2.2.2.2.2.2.2.2.2.2.2.2.2.2.1
theorem pn_bl {g : Gx} {h : Hp} {o : Nat} {p : Nat → Nat} {s : St} (N : PN g h o p s) : hp_j h o 10 = lN (s_bl s) := N.2.2.2.2.2.2.2.2.2.2.2.2.2.2.2
theorem pn_40 {g : Gx} {h : Hp} {o : Nat} {p : Nat → Nat} {s : St} (N : PN g h o p s) : s_told s ≤ 40 := N.2.2.1.2
theorem pn_of {g : Gx} {h : Hp} {o : Nat} {p : Nat → Nat} {s : St} (P : PC g h o p s) : PN g h o p s :=
  ⟨pc_S P, pc_r P, ⟨pc_m P, pc_told40 P⟩, fun i hi => ⟨(pc_t P i hi).1, (pc_t P i hi).2.1, (pc_t P i hi).2.2.1, (pc_t P i hi).2.2.2.1, (pc_t P i hi).2.2.2.2.2⟩, pc_f P, pc_z P, pc_rt P, fun l hl => ⟨(pc_l P l hl).1, (pc_l P l hl).2.2.1, (pc_l P l hl).2.2.2.1, (pc_l P l hl).2.2.2.2⟩, pc_g P, pc_cells P, pc_told P, pc_lkr P, pc_things P, pc_seen P, pc_ab P, pc_bl P⟩
end
section
section MM
variable {g : Gx} {M : Md} {R : Room} {Z : Zx} {kc ks d : Nat} {Q : Option Value → Hp → Prop} {h : Hp} {pc : Nat} {L : List (Option Value)} {st : List Value} {n x0 y0 : Nat}
theorem k_min {idx : Nat} {x y : Int32} (hf : md_f M pc = some (.invokestatic idx, 3, n, x0, y0)) (w1 : Cond.methodLink (md_y M).cls idx ⟨"java/lang/Math", "min", "(II)I"⟩ ∈ sg_tbl) (hfr : 1 ≤ R.frames) (hlo : (st.map fun v => v.category).sum + 13 ≤ R.locals) (hc : kc ≤ R.cells) (hs : ks ≤ R.slots) (kk : Ok g M R Z kc ks h n L (.int (if y < x then y else x) :: st)) : Ok g M R Z kc ks h pc L (.int y :: .int x :: st) := by
  intro p e s m args below meth c H locs ls C hW hF hl
  obtain ⟨hd, hn, -⟩ := md_dec C.2.2.2.2.2.2.2.2.2.2 hf
  subst hn
  exact va_mmin C.1 C.2.1 (C.2.2.1.trans hl.1.1.symm) C.2.2.2.2.1 (C.2.2.2.2.2.1 _ w1) (C.2.2.2.2.2.1 _ wd_251) (C.2.2.2.2.2.1 _ wd_6) (C.2.2.2.2.2.1 _ wd_252) hfr hlo hc hs hd (kk p e s m args below meth c H locs ls C hW hF hl)
theorem k_minN {idx : Nat} {a b : Nat} (hf : md_f M pc = some (.invokestatic idx, 3, n, x0, y0)) (w1 : Cond.methodLink (md_y M).cls idx ⟨"java/lang/Math", "min", "(II)I"⟩ ∈ sg_tbl) (ha : a < 2 ^ 31) (hb : b < 2 ^ 31) (hst : (st.map fun v => v.category).sum ≤ 8) (kk : Om g M (d + 1) Q h n L (.int (nI (min a b)) :: st)) : Om g M (d + 1) Q h pc L (.int (nI b) :: .int (nI a) :: st) := by
  refine k_min hf w1 (by show 1 ≤ d + 1; omega) (by show _ + 13 ≤ 48 * (d + 1); omega) (Nat.zero_le _) (Nat.zero_le _) ?_
  have e : (if nI b < nI a then nI b else nI a) = nI (min a b) := by
    by_cases z : b < a
    · rw [if_pos (nI_lt z (by omega)), show min a b = b by omega]
    · rw [if_neg (nI_nlt (by omega) (by omega)), show min a b = a by omega]
  rw [e]; exact kk
theorem k_max {idx : Nat} {x y : Int32} (hf : md_f M pc = some (.invokestatic idx, 3, n, x0, y0)) (w1 : Cond.methodLink (md_y M).cls idx ⟨"java/lang/Math", "max", "(II)I"⟩ ∈ sg_tbl) (hfr : 1 ≤ R.frames) (hlo : (st.map fun v => v.category).sum + 13 ≤ R.locals) (hc : kc ≤ R.cells) (hs : ks ≤ R.slots) (kk : Ok g M R Z kc ks h n L (.int (if x < y then y else x) :: st)) : Ok g M R Z kc ks h pc L (.int y :: .int x :: st) := by
  intro p e s m args below meth c H locs ls C hW hF hl
  obtain ⟨hd, hn, -⟩ := md_dec C.2.2.2.2.2.2.2.2.2.2 hf
  subst hn
  exact va_mmax C.1 C.2.1 (C.2.2.1.trans hl.1.1.symm) C.2.2.2.2.1 (C.2.2.2.2.2.1 _ w1) (C.2.2.2.2.2.1 _ wd_222) (C.2.2.2.2.2.1 _ wd_6) (C.2.2.2.2.2.1 _ wd_223) hfr hlo hc hs hd (kk p e s m args below meth c H locs ls C hW hF hl)
theorem k_maxN {idx : Nat} {a b : Nat} (hf : md_f M pc = some (.invokestatic idx, 3, n, x0, y0)) (w1 : Cond.methodLink (md_y M).cls idx ⟨"java/lang/Math", "max", "(II)I"⟩ ∈ sg_tbl) (ha : a < 2 ^ 31) (hb : b < 2 ^ 31) (hst : (st.map fun v => v.category).sum ≤ 8) (kk : Om g M (d + 1) Q h n L (.int (nI (max a b)) :: st)) : Om g M (d + 1) Q h pc L (.int (nI b) :: .int (nI a) :: st) := by
  refine k_max hf w1 (by show 1 ≤ d + 1; omega) (by show _ + 13 ≤ 48 * (d + 1); omega) (Nat.zero_le _) (Nat.zero_le _) ?_
  have e : (if nI a < nI b then nI b else nI a) = nI (max a b) := by
    by_cases z : a < b
    · rw [if_pos (nI_lt z (by omega)), show max a b = b by omega]
    · rw [if_neg (nI_nlt (by omega) (by omega)), show max a b = a by omega]
  rw [e]; exact kk
end MM
end
section
theorem c_S_isCell {g : Gx} {h : Hp} {o d : Nat} {p : Nat → Nat} {s : St} {Q : Option Value → Hp → Prop} (P : PC g h o p s) (I : Inv s) (c : Int32) (hQ : Q (some (.int (bI (isc (nI (s_cells s)) c)))) h) : Ct g M_S_isCell (d) 0 0 [.ref o, .int c] h Q := by
  have S := pc_S P
  have bT := v_told I
  have bL := v_lkr I
  refine ct_of ok_S_isCell (by decide) (Nat.le_of_ble_eq_true rfl) [some (.ref o), some (.int c)] rfl rfl ?_
  refine k_iload_n rfl rfl ?_
  refine k_if_lt rfl (fun c1 => ?_) (fun c1 => ?_)
  · refine k_iconst (v := nI 0) rfl (by decide) ?_
    refine k_zret rfl rfl (by decide) (Nat.le_refl _) (Nat.le_refl _) ?_
    rw [show (nI 0 : Int32) = bI (isc (nI (s_cells s)) c) from by simp only [isc, bI]; simp [nI_0, nI_one, Int32.not_le.mpr c1]]; exact hQ
  · refine k_iload_n rfl rfl ?_
    refine k_aload_n rfl rfl ?_
    refine k_gI rfl rfl (sc_o S) (pc_cells P) ?_
    refine k_icmp_ge rfl (fun c9 => ?_) (fun c9 => ?_)
    · refine k_iconst (v := nI 0) rfl (by decide) ?_
      refine k_zret rfl rfl (by decide) (Nat.le_refl _) (Nat.le_refl _) ?_
      rw [show (nI 0 : Int32) = bI (isc (nI (s_cells s)) c) from by simp only [isc, bI]; simp [nI_0, nI_one, Int32.not_lt.mpr c9]]; exact hQ
    · refine k_iconst (v := nI 1) rfl (by decide) ?_
      refine k_goto rfl ?_
      refine k_zret rfl rfl (by decide) (Nat.le_refl _) (Nat.le_refl _) ?_
      rw [show (nI 1 : Int32) = bI (isc (nI (s_cells s)) c) from by simp only [isc, bI]; simp [nI_0, nI_one, Int32.not_lt.mp c1, Int32.not_le.mp c9]]; exact hQ
theorem c_S_isLooker {g : Gx} {h : Hp} {o d : Nat} {p : Nat → Nat} {s : St} {Q : Option Value → Hp → Prop} (P : PC g h o p s) (I : Inv s) (c : Int32) (hQ : Q (some (.int (bI (isc (nI (s_lkr s)) c)))) h) : Ct g M_S_isLooker (d) 0 0 [.ref o, .int c] h Q := by
  have S := pc_S P
  have bT := v_told I
  have bL := v_lkr I
  refine ct_of ok_S_isLooker (by decide) (Nat.le_of_ble_eq_true rfl) [some (.ref o), some (.int c)] rfl rfl ?_
  refine k_iload_n rfl rfl ?_
  refine k_if_lt rfl (fun c1 => ?_) (fun c1 => ?_)
  · refine k_iconst (v := nI 0) rfl (by decide) ?_
    refine k_zret rfl rfl (by decide) (Nat.le_refl _) (Nat.le_refl _) ?_
    rw [show (nI 0 : Int32) = bI (isc (nI (s_lkr s)) c) from by simp only [isc, bI]; simp [nI_0, nI_one, Int32.not_le.mpr c1]]; exact hQ
  · refine k_iload_n rfl rfl ?_
    refine k_aload_n rfl rfl ?_
    refine k_gI rfl rfl (sc_o S) (pc_lkr P) ?_
    refine k_icmp_ge rfl (fun c9 => ?_) (fun c9 => ?_)
    · refine k_iconst (v := nI 0) rfl (by decide) ?_
      refine k_zret rfl rfl (by decide) (Nat.le_refl _) (Nat.le_refl _) ?_
      rw [show (nI 0 : Int32) = bI (isc (nI (s_lkr s)) c) from by simp only [isc, bI]; simp [nI_0, nI_one, Int32.not_lt.mpr c9]]; exact hQ
    · refine k_iconst (v := nI 1) rfl (by decide) ?_
      refine k_goto rfl ?_
      refine k_zret rfl rfl (by decide) (Nat.le_refl _) (Nat.le_refl _) ?_
      rw [show (nI 1 : Int32) = bI (isc (nI (s_lkr s)) c) from by simp only [isc, bI]; simp [nI_0, nI_one, Int32.not_lt.mp c1, Int32.not_le.mp c9]]; exact hQ
theorem c_S_isZeroOrOne {g : Gx} {h : Hp} {d : Nat} {Q : Option Value → Hp → Prop} (x : Int32) (hQ : Q (some (.int (bI (decide (x = 0) || decide (x = 1))))) h) : Ct g M_S_isZeroOrOne d 0 0 [.int x] h Q := by
  refine ct_of ok_S_isZeroOrOne (by decide) (Nat.le_of_ble_eq_true rfl) [some (.int x)] rfl rfl ?_
  refine k_iload_n rfl rfl ?_
  refine k_if_eq rfl (fun c1 => ?_) (fun c1 => ?_)
  · refine k_iconst (v := nI 1) rfl (by decide) ?_
    refine k_goto rfl ?_
    refine k_zret rfl rfl (by decide) (Nat.le_refl _) (Nat.le_refl _) ?_
    rw [decide_eq_true c1] at hQ; exact hQ
  · refine k_iload_n rfl rfl ?_
    refine k_iconst (v := 1) rfl (by decide) ?_
    refine k_icmp_ne rfl (fun c6 => ?_) (fun c6 => ?_)
    · refine k_iconst (v := nI 0) rfl (by decide) ?_
      refine k_zret rfl rfl (by decide) (Nat.le_refl _) (Nat.le_refl _) ?_
      rw [decide_eq_false c1, decide_eq_false c6] at hQ; exact hQ
    · refine k_iconst (v := nI 1) rfl (by decide) ?_
      refine k_goto rfl ?_
      refine k_zret rfl rfl (by decide) (Nat.le_refl _) (Nat.le_refl _) ?_
      rw [decide_eq_false c1, decide_eq_true c6] at hQ; exact hQ
theorem c_S_isWithin {g : Gx} {h : Hp} {d : Nat} {Q : Option Value → Hp → Prop} (x a b : Int64) (hQ : Q (some (.int (bI (decide (a ≤ x) && decide (x ≤ b))))) h) : Ct g M_S_isWithin d 0 0 [.long x, .long a, .long b] h Q := by
  refine ct_of ok_S_isWithin (by decide) (Nat.le_of_ble_eq_true rfl) [some (.long x), none, some (.long a), none, some (.long b), none] rfl rfl ?_
  refine k_lload_n rfl rfl ?_
  refine k_lload_n rfl rfl ?_
  refine kl_lt rfl rfl (fun c2 => ?_) (fun c2 => ?_)
  · refine k_iconst (v := nI 0) rfl (by decide) ?_
    refine k_zret rfl rfl (by decide) (Nat.le_refl _) (Nat.le_refl _) ?_
    rw [decide_eq_false (Int64.not_le.mpr c2)] at hQ; exact hQ
  · refine k_lload_n rfl rfl ?_
    refine k_lload rfl rfl ?_
    refine kl_gt rfl rfl (fun c9 => ?_) (fun c9 => ?_)
    · refine k_iconst (v := nI 0) rfl (by decide) ?_
      refine k_zret rfl rfl (by decide) (Nat.le_refl _) (Nat.le_refl _) ?_
      rw [decide_eq_true (Int64.not_lt.mp c2), decide_eq_false (Int64.not_le.mpr c9)] at hQ; exact hQ
    · refine k_iconst (v := nI 1) rfl (by decide) ?_
      refine k_goto rfl ?_
      refine k_zret rfl rfl (by decide) (Nat.le_refl _) (Nat.le_refl _) ?_
      rw [decide_eq_true (Int64.not_lt.mp c2), decide_eq_true (Int64.not_lt.mp c9)] at hQ; exact hQ
theorem c_S_placeOf {g : Gx} {h : Hp} {o d : Nat} {p : Nat → Nat} {s : St} {Q : Option Value → Hp → Prop} (P : PC g h o p s) (I : Inv s) (c : Int32) (hQ : Q (some (.int (sI (plS s c)))) h) : Ct g M_S_placeOf (d) 0 0 [.ref o, .int c] h Q := by
  have S := pc_S P
  have bT := v_told I
  have bL := v_lkr I
  refine ct_of ok_S_placeOf (by decide) (Nat.le_of_ble_eq_true rfl) [some (.ref o), some (.int c), none] rfl rfl ?_
  refine k_iconst (v := nI 0) rfl (by decide) ?_
  refine k_ist2 rfl rfl ?_
  unfold plS at hQ
  suffices H : ∀ (q i : Nat), i + q = s_told s → plc (fun k => nI (s_num s k)) c (s_told s) 0 = plc (fun k => nI (s_num s k)) c q i → Om g M_S_placeOf d Q h 2 [some (.ref o), some (.int c), some (.int (nI i))] [] from H _ 0 (Nat.zero_add _) rfl
  intro q
  induction q with
  | zero =>
    intro i hi e
    refine k_iload_n rfl rfl ?_
    refine k_aload_n rfl rfl ?_
    refine k_gI rfl rfl (sc_o S) (pc_told P) ?_
    refine kn_ge rfl (by omega) (by omega) (fun c7 => ?_) (fun c7 => ?_)
    · refine k_iconst (v := -1) rfl (by decide) ?_
      refine k_iret rfl rfl (Nat.le_refl _) (Nat.le_refl _) ?_
      rw [e] at hQ; exact hQ
    · exact absurd c7 (by omega)
  | succ q ih =>
    intro i hi e
    have hit : i < s_told s := by omega
    have hpi := (pc_m P).1 i (by omega)
    refine k_iload_n rfl rfl ?_
    refine k_aload_n rfl rfl ?_
    refine k_gI rfl rfl (sc_o S) (pc_told P) ?_
    refine kn_ge rfl (by omega) (by omega) (fun c7 => ?_) (fun c7 => ?_)
    · exact absurd c7 (by omega)
    · refine k_aload_n rfl rfl ?_
      refine k_getR rfl rfl (sc_o S) (sc_told S) ?_
      refine k_iload_n rfl rfl ?_
      refine k_aald (q := ca o (p i)) rfl (sc_a2 S) rfl (by decide) rfl (by omega) (by decide) (pc_r P i (by omega)) ?_
      refine k_gI rfl rfl (sc_c S (p i) hpi).1 (pc_t P i hit).1 ?_
      refine k_iload_n rfl rfl ?_
      refine k_icmp_ne rfl (fun c20 => ?_) (fun c20 => ?_)
      · refine k_incN2 rfl rfl ?_
        refine k_goto rfl ?_
        exact ih (i + 1) (by omega) (by rw [e]; simp only [plc]; rw [if_neg c20])
      · refine k_iload_n rfl rfl ?_
        refine k_iret rfl rfl (Nat.le_refl _) (Nat.le_refl _) ?_
        rw [e] at hQ; simp only [plc] at hQ; rw [if_pos c20] at hQ; exact hQ
/-- a told cell by itself: what its sums rest on -/
def cB (g : Gx) (h : Hp) (o : Nat) (s : St) (j i : Nat) : Prop := j < 40 ∧ i < s_told s ∧ cS g h o j ∧ isA g h (o + 1) 0 4 ∧ hp_i h (ca o j) 6 = nI (s_ar s i) ∧ hp_i h (ca o j) 7 = nI (720 / s_ar s i) ∧ (∀ t, t < 4 → hp_i h (ca o j + 1) t = nI (s_cn s t i)) ∧ ∀ l, l < 4 → hp_i h (o + 1) l = nI (if l < s_lkr s then s_rt s l else 0)
theorem cB_of {g : Gx} {h : Hp} {o : Nat} {p : Nat → Nat} {s : St} (P : PC g h o p s) {i : Nat} (hi : i < s_told s) : cB g h o s (p i) i := by
  have b := pc_told40 P
  have hp := (pc_m P).1 i (by omega)
  obtain ⟨a1, a2, a3, a4, a5, a6⟩ := pc_t P i hi
  exact ⟨hp, hi, sc_c (pc_S P) _ hp, sc_a1 (pc_S P), a2, a3, a4, pc_rt P⟩
def wtF (s : St) (i : Nat) : Nat → Nat
  | 0 => 0
  | t + 1 => wtF s i t + s_cn s t i
theorem wtF_4 (s : St) (i : Nat) : wtF s i 4 = wtN s i := by simp [wtF, wtN]
theorem c_C_weight {g : Gx} {h : Hp} {o d j i : Nat} {s : St} {Q : Option Value → Hp → Prop} (I : Inv s) (B : cB g h o s j i) (hQ : Q (some (.long (lN (wtN s i)))) h) : Ct g M_C_weight (d) 0 0 [.ref (ca o j)] h Q := by
  obtain ⟨hj, hi, C, A1, e7, e8, ec, er⟩ := id B
  obtain ⟨c0, c1, c2, c3, c4, c5, r0, r1, r2, r3, r4, r5⟩ := id C
  have ha := v_ar I i hi
  have hal := ar_le I hi
  refine ct_of ok_C_weight (by decide) (Nat.le_of_ble_eq_true rfl) [some (.ref (ca o j)), none, none, none] rfl rfl ?_
  refine k_lconst (v := lN 0) rfl (by decide) ?_
  refine k_lst1 rfl rfl ?_
  refine k_iconst (v := nI 0) rfl (by decide) ?_
  refine k_ist3 rfl rfl ?_
  suffices H : ∀ (q t : Nat), t + q = 4 → Om g M_C_weight d Q h 4 [some (.ref (ca o j)), some (.long (lN (wtF s i t))), none, some (.int (nI t))] [] from H 4 0 rfl
  intro q
  induction q with
  | zero =>
    intro t ht
    have et : t = 4 := by omega
    subst et
    refine k_iload_n rfl rfl ?_
    refine k_iconst (v := nI 4) rfl (by decide) ?_
    refine kn_ge rfl (by omega) (by omega) (fun c6 => ?_) (fun c6 => ?_)
    · refine k_lload_n rfl rfl ?_
      refine k_lret rfl rfl (Nat.le_refl _) (Nat.le_refl _) ?_
      rw [wtF_4]; exact hQ
    · exact absurd c6 (by omega)
  | succ q ih =>
    intro t ht
    have hct := v_cn I t i (by omega) hi
    refine k_iload_n rfl rfl ?_
    refine k_iconst (v := nI 4) rfl (by decide) ?_
    refine kn_ge rfl (by omega) (by omega) (fun c6 => ?_) (fun c6 => ?_)
    · exact absurd c6 (by omega)
    · refine k_lload_n rfl rfl ?_
      refine k_aload_n rfl rfl ?_
      refine k_getR rfl rfl c0 r1 ?_
      refine k_iload_n rfl rfl ?_
      refine k_iA rfl c1 rfl (by omega) (by decide) (ec t (by omega)) ?_
      refine k_i2lN rfl (by omega) ?_
      refine k_laddN rfl ?_
      refine k_lst1 rfl rfl ?_
      refine k_incN3 rfl rfl ?_
      refine k_goto rfl ?_
      exact ih (t + 1) (by omega)
theorem c_C_missedBy {g : Gx} {h : Hp} {o d j i : Nat} {s : St} {Q : Option Value → Hp → Prop} (I : Inv s) (B : cB g h o s j i) {l x r : Nat} {f : Nat → Nat} (er1 : r = (if l < s_lkr s then s_rt s l else 0)) (hx : x ≤ 20001) (hfx : f l = x) (hQ : Q (some (.long (lN (ms1 s f i l)))) h) : Ct g M_C_missedBy (d + 1) 0 0 [.ref (ca o j), .int (nI r), .int (nI x)] h Q := by
  obtain ⟨hj, hi, C, A1, e7, e8, ec, er⟩ := id B
  obtain ⟨c0, c1, c2, c3, c4, c5, r0, r1, r2, r3, r4, r5⟩ := id C
  have ha := v_ar I i hi
  have hal := ar_le I hi
  refine ct_of ok_C_missedBy (by decide) (Nat.le_of_ble_eq_true rfl) [some (.ref (ca o j)), some (.int (nI r)), some (.int (nI x)), none] rfl rfl ?_
  have er2 : r ≤ 1000 := by
    rw [er1]
    by_cases z : l < s_lkr s
    · rw [if_pos z]; exact (v_rt I l z).2
    · rw [if_neg z]; omega
  have hxr : x * r ≤ 20001 * 1000 := Nat.mul_le_mul hx er2
  have hdl : 720 / s_ar s i ≤ 720 := Nat.div_le_self _ _
  have em : ms1 s f i l = (s_ar s i - min (s_ar s i) (x * r)) * (720 / s_ar s i) := by
    unfold ms1
    rw [Nat.mul_comm]
    congr 2
    rw [er1, hfx]
    by_cases z : l < s_lkr s
    · rw [if_pos z, if_pos z]
    · rw [if_neg z, if_neg z, Nat.mul_zero]
  rw [em] at hQ
  refine k_aload_n rfl rfl ?_
  refine k_gI rfl rfl c0 e7 ?_
  refine k_iload_n rfl rfl ?_
  refine k_iload_n rfl rfl ?_
  refine k_imulN rfl ?_
  refine k_minN rfl wd_250 (by omega) (by omega) (Nat.le_of_ble_eq_true rfl) ?_
  refine k_ist3 rfl rfl ?_
  refine k_aload_n rfl rfl ?_
  refine k_gI rfl rfl c0 e7 ?_
  refine k_iload_n rfl rfl ?_
  refine k_isubN rfl (by omega) ?_
  refine k_i2lN rfl (by omega) ?_
  refine k_aload_n rfl rfl ?_
  refine k_gI rfl rfl c0 e8 ?_
  refine k_i2lN rfl (by omega) ?_
  refine k_lmulN rfl ?_
  refine k_lret rfl rfl (Nat.le_refl _) (Nat.le_refl _) ?_
  exact hQ
theorem c_C_missed {g : Gx} {h : Hp} {o d j i : Nat} {s : St} {Q : Option Value → Hp → Prop} (I : Inv s) (B : cB g h o s j i) {ra : Nat} {f : Nat → Nat} (hA : isA g h ra 0 4) (hrow : ∀ l, l < 4 → hp_i h ra l = nI (f l)) (hfb : ∀ l, l < 4 → f l ≤ 20001) (hQ : Q (some (.long (lN (msN s f i)))) h) : Ct g M_C_missed (d + 2) 0 0 [.ref (ca o j), .ref ra, .ref (o + 1)] h Q := by
  obtain ⟨hj, hi, C, A1, e7, e8, ec, er⟩ := id B
  obtain ⟨c0, c1, c2, c3, c4, c5, r0, r1, r2, r3, r4, r5⟩ := id C
  have ha := v_ar I i hi
  have hal := ar_le I hi
  refine ct_of ok_C_missed (by decide) (Nat.le_of_ble_eq_true rfl) [some (.ref (ca o j)), some (.ref ra), some (.ref (o + 1)), none, none, none] rfl rfl ?_
  refine k_lconst (v := lN 1) rfl (by decide) ?_
  refine k_lst3 rfl rfl ?_
  refine k_iconst (v := nI 0) rfl (by decide) ?_
  refine k_ist5 rfl rfl ?_
  suffices H : ∀ (q l : Nat), l + q = 4 → Om g M_C_missed (d + 2) Q h 5 [some (.ref (ca o j)), some (.ref ra), some (.ref (o + 1)), some (.long (lN (msP s f i l))), none, some (.int (nI l))] [] from H 4 0 rfl
  intro q
  induction q with
  | zero =>
    intro l hl
    have el : l = 4 := by omega
    subst el
    refine k_iload rfl rfl ?_
    refine k_iconst (v := nI 4) rfl (by decide) ?_
    refine kn_ge rfl (by omega) (by omega) (fun c8 => ?_) (fun c8 => ?_)
    · refine k_lload_n rfl rfl ?_
      refine k_lret rfl rfl (Nat.le_refl _) (Nat.le_refl _) ?_
      exact hQ
    · exact absurd c8 (by omega)
  | succ q ih =>
    intro l hl
    refine k_iload rfl rfl ?_
    refine k_iconst (v := nI 4) rfl (by decide) ?_
    refine kn_ge rfl (by omega) (by omega) (fun c8 => ?_) (fun c8 => ?_)
    · exact absurd c8 (by omega)
    · refine k_lload_n rfl rfl ?_
      refine k_aload_n rfl rfl ?_
      refine k_aload_n rfl rfl ?_
      refine k_iload rfl rfl ?_
      refine k_iA rfl A1 rfl (by omega) (by decide) (er l (by omega)) ?_
      refine k_aload_n rfl rfl ?_
      refine k_iload rfl rfl ?_
      refine k_iA rfl hA rfl (by omega) (by decide) (hrow l (by omega)) ?_
      refine k_cV2 rfl cw_C_missedBy wd_246 c0 rfl (by decide) (Nat.le_of_ble_eq_true rfl) ?_
      refine c_C_missedBy (f := f) I B rfl (hfb l (by omega)) rfl ?_
      refine k_lmulN rfl ?_
      refine k_lst3 rfl rfl ?_
      refine k_incN5 rfl rfl ?_
      refine k_goto rfl ?_
      exact ih (l + 1) (by omega)
def fdN (s : St) (f : Nat → Nat) (i : Nat) : Nat := wtN s i * (268738560000 - msN s f i)
theorem c_C_finds {g : Gx} {h : Hp} {o d j i : Nat} {s : St} {Q : Option Value → Hp → Prop} (I : Inv s) (B : cB g h o s j i) {ra : Nat} {f : Nat → Nat} (hA : isA g h ra 0 4) (hrow : ∀ l, l < 4 → hp_i h ra l = nI (f l)) (hfb : ∀ l, l < 4 → f l ≤ 20001) (hQ : Q (some (.long (lN (fdN s f i)))) h) : Ct g M_C_finds (d + 3) 0 0 [.ref (ca o j), .ref ra, .ref (o + 1)] h Q := by
  obtain ⟨hj, hi, C, A1, e7, e8, ec, er⟩ := id B
  obtain ⟨c0, c1, c2, c3, c4, c5, r0, r1, r2, r3, r4, r5⟩ := id C
  have ha := v_ar I i hi
  have hal := ar_le I hi
  refine ct_of ok_C_finds (by decide) (Nat.le_of_ble_eq_true rfl) [some (.ref (ca o j)), some (.ref ra), some (.ref (o + 1))] rfl rfl ?_
  refine k_aload_n rfl rfl ?_
  refine k_cV0 rfl cw_C_weight wd_237 c0 rfl (by decide) (Nat.le_of_ble_eq_true rfl) ?_
  refine c_C_weight I B ?_
  refine k_ldc2 rfl wd_241 ?_
  rw [lN_W]
  refine k_aload_n rfl rfl ?_
  refine k_aload_n rfl rfl ?_
  refine k_aload_n rfl rfl ?_
  refine k_cV2 rfl cw_C_missed wd_242 c0 rfl (by decide) (Nat.le_of_ble_eq_true rfl) ?_
  refine c_C_missed (f := f) I B hA hrow hfb ?_
  refine k_lsubN rfl (msN_le _ _ _) ?_
  refine k_lmulN rfl ?_
  refine k_lret rfl rfl (Nat.le_refl _) (Nat.le_refl _) ?_
  exact hQ
theorem c_C_remains {g : Gx} {h : Hp} {o d j i : Nat} {s : St} {Q : Option Value → Hp → Prop} (I : Inv s) (B : cB g h o s j i) (hld : ∀ l, l < 4 → hp_i h (ca o j + 3) l = nI (s_ld s l i)) (hQ : Q (some (.long (lN (m0 s i)))) h) : Ct g M_C_remains (d + 3) 0 0 [.ref (ca o j), .ref (o + 1)] h Q := by
  obtain ⟨hj, hi, C, A1, e7, e8, ec, er⟩ := id B
  obtain ⟨c0, c1, c2, c3, c4, c5, r0, r1, r2, r3, r4, r5⟩ := id C
  have ha := v_ar I i hi
  have hal := ar_le I hi
  refine ct_of ok_C_remains (by decide) (Nat.le_of_ble_eq_true rfl) [some (.ref (ca o j)), some (.ref (o + 1))] rfl rfl ?_
  have bK := v_lks I
  have hct := v_cn I 0 i (by decide) hi
  refine k_aload_n rfl rfl ?_
  refine k_getR rfl rfl c0 r1 ?_
  refine k_iconst (v := nI 0) rfl (by decide) ?_
  refine k_iA rfl c1 (j := 0) rfl (by decide) (by decide) (ec 0 (by decide)) ?_
  refine k_i2lN rfl (by omega) ?_
  refine k_aload_n rfl rfl ?_
  refine k_aload_n rfl rfl ?_
  refine k_getR rfl rfl c0 r3 ?_
  refine k_aload_n rfl rfl ?_
  refine k_cV2 rfl cw_C_missed wd_242 c0 rfl (by decide) (Nat.le_of_ble_eq_true rfl) ?_
  refine c_C_missed (f := fun l => s_ld s l i) I B c3 hld (fun l hl => by have := v_ld I l i hl hi; omega) ?_
  refine k_lmulN rfl ?_
  refine k_lret rfl rfl (Nat.le_refl _) (Nat.le_refl _) ?_
  exact hQ
theorem c_S_allCounts {g : Gx} {h : Hp} {o d : Nat} {p : Nat → Nat} {s : St} {Q : Option Value → Hp → Prop} (P : PC g h o p s) (I : Inv s) (hQ : Q (some (.long (lN (alN s (s_told s))))) h) : Ct g M_S_allCounts (d) 0 0 [.ref o] h Q := by
  have S := pc_S P
  have bT := v_told I
  have bL := v_lkr I
  refine ct_of ok_S_allCounts (by decide) (Nat.le_of_ble_eq_true rfl) [some (.ref o), none, none, none] rfl rfl ?_
  refine k_lconst (v := lN 0) rfl (by decide) ?_
  refine k_lst1 rfl rfl ?_
  refine k_iconst (v := nI 0) rfl (by decide) ?_
  refine k_ist3 rfl rfl ?_
  suffices H : ∀ (q i : Nat), i + q = s_told s → Om g M_S_allCounts (d) Q h 4 [some (.ref o), some (.long (lN (alN s i))), none, some (.int (nI i))] [] from H _ 0 (Nat.zero_add _)
  intro q
  induction q with
  | zero =>
    intro i hi
    have ei : i = s_told s := by omega
    refine k_iload_n rfl rfl ?_
    refine k_aload_n rfl rfl ?_
    refine k_gI rfl rfl (sc_o S) (pc_told P) ?_
    refine kn_ge rfl (by omega) (by omega) (fun c9 => ?_) (fun c9 => ?_)
    · refine k_lload_n rfl rfl ?_
      refine k_lret rfl rfl (Nat.le_refl _) (Nat.le_refl _) ?_
      rw [ei]; exact hQ
    · exact absurd c9 (by omega)
  | succ q ih =>
    intro i hi
    have hk : i < s_told s := by omega
    have hpi := (pc_m P).1 i (by omega)
    refine k_iload_n rfl rfl ?_
    refine k_aload_n rfl rfl ?_
    refine k_gI rfl rfl (sc_o S) (pc_told P) ?_
    refine kn_ge rfl (by omega) (by omega) (fun c9 => ?_) (fun c9 => ?_)
    · exact absurd c9 (by omega)
    · refine k_lload_n rfl rfl ?_
      refine k_aload_n rfl rfl ?_
      refine k_getR rfl rfl (sc_o S) (sc_told S) ?_
      refine k_iload_n rfl rfl ?_
      refine k_aald (q := ca o (p i)) rfl (sc_a2 S) rfl (by decide) rfl (by omega) (by decide) (pc_r P i (by omega)) ?_
      refine k_getR rfl rfl (sc_c S (p i) hpi).1 (sc_c S (p i) hpi).2.2.2.2.2.2.2.1 ?_
      refine k_iconst (v := nI 0) rfl (by decide) ?_
      refine k_iA rfl (sc_c S (p i) hpi).2.1 (j := 0) rfl (by decide) (by decide) ((pc_t P i hk).2.2.2.1 0 (by decide)) ?_
      refine k_i2lN rfl (by have := v_cn I 0 i (by decide) hk; omega) ?_
      refine k_laddN rfl ?_
      refine k_lst1 rfl rfl ?_
      refine k_incN3 rfl rfl ?_
      refine k_goto rfl ?_
      exact ih (i + 1) (by omega)
theorem c_S_allRemains {g : Gx} {h : Hp} {o d : Nat} {p : Nat → Nat} {s : St} {Q : Option Value → Hp → Prop} (P : PC g h o p s) (I : Inv s) (hQ : Q (some (.long (lN (lfN s (s_told s))))) h) : Ct g M_S_allRemains (d + 4) 0 0 [.ref o] h Q := by
  have S := pc_S P
  have bT := v_told I
  have bL := v_lkr I
  refine ct_of ok_S_allRemains (by decide) (Nat.le_of_ble_eq_true rfl) [some (.ref o), none, none, none] rfl rfl ?_
  refine k_lconst (v := lN 0) rfl (by decide) ?_
  refine k_lst1 rfl rfl ?_
  refine k_iconst (v := nI 0) rfl (by decide) ?_
  refine k_ist3 rfl rfl ?_
  suffices H : ∀ (q i : Nat), i + q = s_told s → Om g M_S_allRemains (d + 4) Q h 4 [some (.ref o), some (.long (lN (lfN s i))), none, some (.int (nI i))] [] from H _ 0 (Nat.zero_add _)
  intro q
  induction q with
  | zero =>
    intro i hi
    have ei : i = s_told s := by omega
    refine k_iload_n rfl rfl ?_
    refine k_aload_n rfl rfl ?_
    refine k_gI rfl rfl (sc_o S) (pc_told P) ?_
    refine kn_ge rfl (by omega) (by omega) (fun c9 => ?_) (fun c9 => ?_)
    · refine k_lload_n rfl rfl ?_
      refine k_lret rfl rfl (Nat.le_refl _) (Nat.le_refl _) ?_
      rw [ei]; exact hQ
    · exact absurd c9 (by omega)
  | succ q ih =>
    intro i hi
    have hk : i < s_told s := by omega
    have hpi := (pc_m P).1 i (by omega)
    refine k_iload_n rfl rfl ?_
    refine k_aload_n rfl rfl ?_
    refine k_gI rfl rfl (sc_o S) (pc_told P) ?_
    refine kn_ge rfl (by omega) (by omega) (fun c9 => ?_) (fun c9 => ?_)
    · exact absurd c9 (by omega)
    · refine k_lload_n rfl rfl ?_
      refine k_aload_n rfl rfl ?_
      refine k_getR rfl rfl (sc_o S) (sc_told S) ?_
      refine k_iload_n rfl rfl ?_
      refine k_aald (q := ca o (p i)) rfl (sc_a2 S) rfl (by decide) rfl (by omega) (by decide) (pc_r P i (by omega)) ?_
      refine k_aload_n rfl rfl ?_
      refine k_getR rfl rfl (sc_o S) (sc_rates S) ?_
      refine k_cVN1 rfl cw_C_remains (nsM (i := 8) rfl) (sc_c S (p i) hpi).1 rfl (by decide) (Nat.le_of_ble_eq_true rfl) ?_
      refine c_C_remains I (cB_of P hk) (pc_t P i hk).2.2.2.2.2 ?_
      refine k_laddN rfl ?_
      refine k_lst1 rfl rfl ?_
      refine k_incN3 rfl rfl ?_
      refine k_goto rfl ?_
      exact ih (i + 1) (by omega)
end
section
def fb : Nat → Nat × Nat
  | 0 => (0, 1)
  | n + 1 => ((fb n).2, (fb n).1 + (fb n).2)
theorem fb_100 : 2 ^ 63 ≤ (fb 100).1 := by decide +kernel
theorem c_S_commonDivisor {g : Gx} {h : Hp} {d a b : Nat} {Q : Option Value → Hp → Prop} (ha : a < 2 ^ 63) (hb : b < 2 ^ 63) (ha0 : 0 < a) (hb0 : 0 < b) (hQ : Q (some (.long (lN (Nat.gcd a b)))) h) : Ct g M_S_commonDivisor d 0 0 [.long (lN a), .long (lN b)] h Q := by
  refine ct_of ok_S_commonDivisor (by decide) (Nat.le_of_ble_eq_true rfl) [some (.long (lN a)), none, some (.long (lN b)), none, none, none, none, none, none, none, none] rfl rfl ?_
  refine k_lload_n rfl rfl ?_
  refine k_lst4 rfl rfl ?_
  refine k_lload_n rfl rfl ?_
  refine k_lst6 rfl rfl ?_
  refine k_iconst (v := nI 0) rfl (by decide) ?_
  refine k_ist8 rfl rfl ?_
  have JE : ∀ (x i : Nat) (y : Int64) (z : Option Value), x = Nat.gcd a b → Om g M_S_commonDivisor d Q h 44 [some (.long (lN a)), none, some (.long (lN b)), none, some (.long (lN x)), none, some (.long y), none, some (.int (nI i)), z, none] [] := by
    intro x i y z ex
    have hg : 0 < Nat.gcd a b := Nat.gcd_pos_of_pos_left _ ha0
    have hg2 : Nat.gcd a b ≤ a := Nat.le_of_dvd ha0 (Nat.gcd_dvd_left a b)
    refine k_lload rfl rfl ?_
    refine k_lconst (v := lN 1) rfl (by decide) ?_
    refine klN_ge rfl rfl (by omega) (by decide) (fun c47 => ?_) (fun c47 => ?_)
    · refine k_lload rfl rfl ?_
      refine k_lret rfl rfl (Nat.le_refl _) (Nat.le_refl _) ?_
      rw [ex]; exact hQ
    · exact absurd c47 (by omega)
  suffices H : ∀ (q i x y : Nat) (z : Option Value), i + q = 100 → x < 2 ^ 63 → y < 2 ^ 63 → Nat.gcd x y = Nat.gcd a b → (0 < i → y < x ∧ (fb i).1 * x + (fb (i - 1)).1 * y ≤ b) → (i = 0 → x = a ∧ y = b) → Om g M_S_commonDivisor d Q h 9 [some (.long (lN a)), none, some (.long (lN b)), none, some (.long (lN x)), none, some (.long (lN y)), none, some (.int (nI i)), z, none] [] from H 100 0 a b none rfl ha hb rfl (fun z => absurd z (by omega)) (fun _ => ⟨rfl, rfl⟩)
  intro q
  induction q with
  | zero =>
    intro i x y z hi hx hy e hI h0
    have ei : i = 100 := by omega
    subst ei
    obtain ⟨q1, q2⟩ := hI (by omega)
    have q3 : (fb 100).1 * 1 ≤ (fb 100).1 * x := Nat.mul_le_mul_left _ (by omega)
    have q4 := fb_100
    exact absurd hb (by omega)
  | succ q ih =>
    intro i x y z hi hx hy e hI h0
    refine k_iload rfl rfl ?_
    refine k_bipush (v := nI 100) rfl (by decide) ?_
    refine kn_ge rfl (by omega) (by omega) (fun c13 => ?_) (fun c13 => ?_)
    · exact absurd c13 (by omega)
    · refine k_lload rfl rfl ?_
      refine k_lconst (v := lN 0) rfl (by decide) ?_
      refine klN_eq rfl rfl hy (by decide) (fun c19 => ?_) (fun c19 => ?_)
      · subst c19
        rw [Nat.gcd_zero_right] at e
        exact JE x _ _ _ e
      · have hp : 0 < y := by omega
        have hm : x % y < y := Nat.mod_lt _ hp
        have hdm := Nat.div_add_mod x y
        refine k_lload rfl rfl ?_
        refine k_lload rfl rfl ?_
        refine k_lremN rfl hx hp hy ?_
        refine k_lst9 rfl rfl ?_
        refine k_lload rfl rfl ?_
        refine k_lst4 rfl rfl ?_
        refine k_lload rfl rfl ?_
        refine k_lst6 rfl rfl ?_
        refine k_incN8 rfl rfl ?_
        refine k_goto rfl ?_
        refine ih (i + 1) y (x % y) _ (by omega) hy (by omega) (by rw [← e, Nat.gcd_comm x y, Nat.gcd_rec y x, Nat.gcd_comm]) (fun _ => ⟨hm, ?_⟩) (fun z => absurd z (by omega))
        show (fb i).2 * y + (fb i).1 * (x % y) ≤ b
        by_cases i0 : i = 0
        · subst i0
          obtain ⟨rfl, rfl⟩ := h0 rfl
          show 1 * y + 0 * _ ≤ y
          omega
        · obtain ⟨q1, q2⟩ := hI (by omega)
          obtain ⟨k, rfl⟩ : ∃ k, i = k + 1 := ⟨i - 1, by omega⟩
          have q3 : (fb (k + 1)).1 * x + (fb k).1 * y ≤ b := q2
          have e1 : 1 ≤ x / y := Nat.div_pos (by omega) hp
          have e2 : y * 1 ≤ y * (x / y) := Nat.mul_le_mul_left _ e1
          have e3 : y + x % y ≤ x := by omega
          have e4 : (fb (k + 1)).1 * (y + x % y) ≤ (fb (k + 1)).1 * x := Nat.mul_le_mul_left _ e3
          have e5 : (fb (k + 1)).2 = (fb k).1 + (fb (k + 1)).1 := rfl
          rw [e5, Nat.add_mul]
          rw [Nat.mul_add] at e4
          omega
theorem c_S_fraction {g : Gx} {h : Hp} {d a b : Nat} {p : Int32} {Q : Option Value → Hp → Prop} (ha : a < 2 ^ 63) (hb : b < 2 ^ 63) (hp : p = 0 ∨ p = 1) (hQ : Q (some (.long (ptI a b p))) h) : Ct g M_S_fraction (d + 1) 0 0 [.long (lN a), .long (lN b), .int p] h Q := by
  refine ct_of ok_S_fraction (by decide) (Nat.le_of_ble_eq_true rfl) [some (.long (lN a)), none, some (.long (lN b)), none, some (.int p), none, none] rfl rfl ?_
  have hpr : ¬ (p < 0 ∨ 1 < p) := by rcases hp with e | e <;> subst e <;> decide
  unfold ptI at hQ
  rw [if_neg hpr] at hQ
  refine k_lload_n rfl rfl ?_
  refine k_lconst (v := lN 0) rfl (by decide) ?_
  refine klN_le rfl rfl ha (by decide) (fun c2 => ?_) (fun c2 => ?_)
  · refine k_iload rfl rfl ?_
    refine k_if_ne rfl (fun c14 => ?_) (fun c14 => ?_)
    · refine k_lconst (v := lN 1) rfl (by decide) ?_
      refine k_lret rfl rfl (Nat.le_refl _) (Nat.le_refl _) ?_
      rw [if_pos (by omega)] at hQ; rw [hp.resolve_left c14] at hQ; exact hQ
    · refine k_lconst (v := lN 0) rfl (by decide) ?_
      refine k_goto rfl ?_
      refine k_lret rfl rfl (Nat.le_refl _) (Nat.le_refl _) ?_
      rw [if_pos (by omega), c14] at hQ; exact hQ
  · refine k_lload_n rfl rfl ?_
    refine k_lconst (v := lN 0) rfl (by decide) ?_
    refine klN_gt rfl rfl hb (by decide) (fun c8 => ?_) (fun c8 => ?_)
    · have hg : 0 < Nat.gcd a b := Nat.gcd_pos_of_pos_left _ (by omega)
      have hg2 : Nat.gcd a b ≤ a := Nat.le_of_dvd (by omega) (Nat.gcd_dvd_left a b)
      refine k_lload_n rfl rfl ?_
      refine k_lload_n rfl rfl ?_
      refine k_cS2 rfl cw_S_commonDivisor wd_192 (by decide) (Nat.le_of_ble_eq_true rfl) ?_
      refine c_S_commonDivisor ha hb (by omega) (by omega) ?_
      refine k_lst5 rfl rfl ?_
      refine k_iload rfl rfl ?_
      refine k_if_ne rfl (fun c32 => ?_) (fun c32 => ?_)
      · refine k_lload_n rfl rfl ?_
        refine k_lload rfl rfl ?_
        refine k_ldivN rfl (by omega) (by omega) (by omega) ?_
        refine k_lret rfl rfl (Nat.le_refl _) (Nat.le_refl _) ?_
        rw [if_neg (by omega), if_neg c32] at hQ; exact hQ
      · refine k_lload_n rfl rfl ?_
        refine k_goto rfl ?_
        refine k_lload rfl rfl ?_
        refine k_ldivN rfl (by omega) (by omega) (by omega) ?_
        refine k_lret rfl rfl (Nat.le_refl _) (Nat.le_refl _) ?_
        rw [if_neg (by omega), if_pos c32] at hQ; exact hQ
    · refine k_iload rfl rfl ?_
      refine k_if_ne rfl (fun c14 => ?_) (fun c14 => ?_)
      · refine k_lconst (v := lN 1) rfl (by decide) ?_
        refine k_lret rfl rfl (Nat.le_refl _) (Nat.le_refl _) ?_
        rw [if_pos (by omega)] at hQ; rw [hp.resolve_left c14] at hQ; exact hQ
      · refine k_lconst (v := lN 0) rfl (by decide) ?_
        refine k_goto rfl ?_
        refine k_lret rfl rfl (Nat.le_refl _) (Nat.le_refl _) ?_
        rw [if_pos (by omega), c14] at hQ; exact hQ
theorem c_S_rowWidth {g : Gx} {h : Hp} {d a : Nat} {Q : Option Value → Hp → Prop} (h0 : 0 < a) (ha : a ≤ 720) (hQ : Q (some (.int (nI (rwN a)))) h) : Ct g M_S_rowWidth d 0 0 [.int (nI a)] h Q := by
  refine ct_of ok_S_rowWidth (by decide) (Nat.le_of_ble_eq_true rfl) [some (.int (nI a)), none, none] rfl rfl ?_
  have e0 : rwN a = rwF a 26 2 1 := by
    show (if 1 * 1 ≤ a then rwF a 26 2 (if a % 1 = 0 then 1 else 1) else 1) = _
    rw [if_pos (by omega), if_pos (Nat.mod_one a)]
  refine k_iconst (v := nI 1) rfl (by decide) ?_
  refine k_ist1 rfl rfl ?_
  refine k_iconst (v := nI 2) rfl (by decide) ?_
  refine k_ist2 rfl rfl ?_
  suffices H : ∀ (q d0 w0 : Nat), d0 + q = 28 → 0 < d0 → w0 ≤ 28 → rwN a = rwF a q d0 w0 → Om g M_S_rowWidth d Q h 4 [some (.int (nI a)), some (.int (nI w0)), some (.int (nI d0))] [] from H 26 2 1 rfl (by decide) (by decide) e0
  intro q
  induction q with
  | zero =>
    intro d0 w0 h1 h2 h3 e
    obtain rfl : d0 = 28 := by omega
    refine k_iload_n rfl rfl ?_
    refine k_iload_n rfl rfl ?_
    refine k_imulN rfl ?_
    refine k_iload_n rfl rfl ?_
    refine kn_gt rfl (by omega) (by omega) (fun c8 => ?_) (fun c8 => ?_)
    · refine k_iload_n rfl rfl ?_
      refine k_iret rfl rfl (Nat.le_refl _) (Nat.le_refl _) ?_
      have e9 : rwN a = w0 := e
      rw [← e9]; exact hQ
    · exact absurd c8 (by omega)
  | succ q ih =>
    intro d0 w0 h1 h2 h3 e
    have hdd : d0 * d0 ≤ 28 * 28 := Nat.mul_le_mul (by omega) (by omega)
    simp only [rwF] at e
    refine k_iload_n rfl rfl ?_
    refine k_iload_n rfl rfl ?_
    refine k_imulN rfl ?_
    refine k_iload_n rfl rfl ?_
    refine kn_gt rfl (by omega) (by omega) (fun c8 => ?_) (fun c8 => ?_)
    · rw [if_neg (by omega)] at e
      refine k_iload_n rfl rfl ?_
      refine k_iret rfl rfl (Nat.le_refl _) (Nat.le_refl _) ?_
      rw [← e]; exact hQ
    · rw [if_pos c8] at e
      have hmd : a % d0 < d0 := Nat.mod_lt _ h2
      refine k_iload_n rfl rfl ?_
      refine k_iload_n rfl rfl ?_
      refine k_iremN rfl (by omega) (by omega) (by omega) ?_
      refine k_if_ne rfl (fun c14 => ?_) (fun c14 => ?_)
      · rw [if_neg (fun z => c14 (by rw [z]; rfl))] at e
        refine k_incN2 rfl rfl ?_
        refine k_goto rfl ?_
        exact ih _ _ (by omega) (by omega) (by omega) e
      · rw [if_pos ((nI_eq (by omega) (by decide)).mp c14)] at e
        refine k_iload_n rfl rfl ?_
        refine k_ist1 rfl rfl ?_
        refine k_incN2 rfl rfl ?_
        refine k_goto rfl ?_
        exact ih _ _ (by omega) (by omega) (by omega) e
theorem c_S_rowOf {g : Gx} {h : Hp} {d k w : Nat} {Q : Option Value → Hp → Prop} (hk : k < 2 ^ 31) (h0 : 0 < w) (hw : w < 2 ^ 31) (hQ : Q (some (.int (nI (k / w)))) h) : Ct g M_S_rowOf d 0 0 [.int (nI k), .int (nI w)] h Q := by
  refine ct_of ok_S_rowOf (by decide) (Nat.le_of_ble_eq_true rfl) [some (.int (nI k)), some (.int (nI w))] rfl rfl ?_
  refine k_iload_n rfl rfl ?_
  refine k_iconst (v := nI 1) rfl (by decide) ?_
  refine kn_ge rfl (by omega) (by omega) (fun c2 => ?_) (fun c2 => ?_)
  · refine k_iload_n rfl rfl ?_
    refine k_iload_n rfl rfl ?_
    refine k_idivN rfl (by omega) (by omega) (by omega) ?_
    refine k_iret rfl rfl (Nat.le_refl _) (Nat.le_refl _) ?_
    exact hQ
  · exact absurd c2 (by omega)
def prN (k w : Nat) : Nat := if k / w % 2 = 0 then k % w else w - 1 - k % w
theorem c_S_placeInRow {g : Gx} {h : Hp} {d k w : Nat} {Q : Option Value → Hp → Prop} (hk : k < 2 ^ 31) (h0 : 0 < w) (hw : w < 2 ^ 31) (hQ : Q (some (.int (nI (prN k w)))) h) : Ct g M_S_placeInRow (d + 1) 0 0 [.int (nI k), .int (nI w)] h Q := by
  refine ct_of ok_S_placeInRow (by decide) (Nat.le_of_ble_eq_true rfl) [some (.int (nI k)), some (.int (nI w)), none] rfl rfl ?_
  have hm := Nat.mod_lt k h0
  have hdl : k / w ≤ k := Nat.div_le_self _ _
  unfold prN at hQ
  refine k_iload_n rfl rfl ?_
  refine k_iconst (v := nI 1) rfl (by decide) ?_
  refine kn_ge rfl (by omega) (by omega) (fun c2 => ?_) (fun c2 => ?_)
  · refine k_iload_n rfl rfl ?_
    refine k_iload_n rfl rfl ?_
    refine k_iremN rfl (by omega) (by omega) (by omega) ?_
    refine k_ist2 rfl rfl ?_
    refine k_iload_n rfl rfl ?_
    refine k_iload_n rfl rfl ?_
    refine k_cS2 rfl cw_S_rowOf wd_319 (by decide) (Nat.le_of_ble_eq_true rfl) ?_
    refine c_S_rowOf hk h0 hw ?_
    refine k_iconst (v := nI 2) rfl (by decide) ?_
    refine k_iremN rfl (by omega) (by omega) (by omega) ?_
    refine k_if_ne rfl (fun c18 => ?_) (fun c18 => ?_)
    · rw [if_neg (fun z => c18 (by rw [z]; rfl))] at hQ
      refine k_iload_n rfl rfl ?_
      refine k_iconst (v := nI 1) rfl (by decide) ?_
      refine k_isubN rfl (by omega) ?_
      refine k_iload_n rfl rfl ?_
      refine k_isubN rfl (by omega) ?_
      refine k_iret rfl rfl (Nat.le_refl _) (Nat.le_refl _) ?_
      exact hQ
    · rw [if_pos ((nI_eq (by omega) (by decide)).mp c18)] at hQ
      refine k_iload_n rfl rfl ?_
      refine k_goto rfl ?_
      refine k_iret rfl rfl (Nat.le_refl _) (Nat.le_refl _) ?_
      exact hQ
  · exact absurd c2 (by omega)
theorem c_S_plannedHours {g : Gx} {h : Hp} {o d : Nat} {p : Nat → Nat} {s : St} {Q : Option Value → Hp → Prop} (P : PC g h o p s) (I : Inv s) (hQ : Q (some (.int (nI (szN s (s_lkr s))))) h) : Ct g M_S_plannedHours (d) 0 0 [.ref o] h Q := by
  have S := pc_S P
  have bT := v_told I
  have bL := v_lkr I
  refine ct_of ok_S_plannedHours (by decide) (Nat.le_of_ble_eq_true rfl) [some (.ref o), none, none] rfl rfl ?_
  refine k_iconst (v := nI 0) rfl (by decide) ?_
  refine k_ist1 rfl rfl ?_
  refine k_iconst (v := nI 0) rfl (by decide) ?_
  refine k_ist2 rfl rfl ?_
  suffices H : ∀ (q i : Nat), i + q = s_lkr s → Om g M_S_plannedHours (d) Q h 4 [some (.ref o), some (.int (nI (szN s i))), some (.int (nI i))] [] from H _ 0 (Nat.zero_add _)
  intro q
  induction q with
  | zero =>
    intro i hi
    have ei : i = s_lkr s := by omega
    refine k_iload_n rfl rfl ?_
    refine k_aload_n rfl rfl ?_
    refine k_gI rfl rfl (sc_o S) (pc_lkr P) ?_
    refine kn_ge rfl (by omega) (by omega) (fun c9 => ?_) (fun c9 => ?_)
    · refine k_iload_n rfl rfl ?_
      refine k_iret rfl rfl (Nat.le_refl _) (Nat.le_refl _) ?_
      rw [ei]; exact hQ
    · exact absurd c9 (by omega)
  | succ q ih =>
    intro i hi
    have hk : i < s_lkr s := by omega
    refine k_iload_n rfl rfl ?_
    refine k_aload_n rfl rfl ?_
    refine k_gI rfl rfl (sc_o S) (pc_lkr P) ?_
    refine kn_ge rfl (by omega) (by omega) (fun c9 => ?_) (fun c9 => ?_)
    · exact absurd c9 (by omega)
    · refine k_iload_n rfl rfl ?_
      refine k_aload_n rfl rfl ?_
      refine k_getR rfl rfl (sc_o S) (sc_lkrs S) ?_
      refine k_iload_n rfl rfl ?_
      refine k_aald (q := la o i) rfl (sc_a243 S) rfl (by decide) rfl (by omega) (by decide) (sc_l S i (by omega)).2.2.2 ?_
      refine k_gI rfl rfl (sc_l S i (by omega)).1 (pc_l P i (by omega)).2.1 ?_
      refine k_iaddN rfl ?_
      refine k_ist1 rfl rfl ?_
      refine k_incN2 rfl rfl ?_
      refine k_goto rfl ?_
      exact ih (i + 1) (by omega)
theorem wo_fd (s : St) (F : Nat → Nat → Nat) (k : Nat) : wo s F (k + 1) = wo s F k + fdN s (fun l => F l k) k := rfl
theorem c_S_plannedFinds {g : Gx} {h : Hp} {o d : Nat} {p : Nat → Nat} {s : St} {Q : Option Value → Hp → Prop} (P : PC g h o p s) (I : Inv s) (hQ : Q (some (.long (lN (wo s (s_pl s) (s_told s))))) h) : Ct g M_S_plannedFinds (d + 4) 0 0 [.ref o] h Q := by
  have S := pc_S P
  have bT := v_told I
  have bL := v_lkr I
  refine ct_of ok_S_plannedFinds (by decide) (Nat.le_of_ble_eq_true rfl) [some (.ref o), none, none, none] rfl rfl ?_
  refine k_lconst (v := lN 0) rfl (by decide) ?_
  refine k_lst1 rfl rfl ?_
  refine k_iconst (v := nI 0) rfl (by decide) ?_
  refine k_ist3 rfl rfl ?_
  suffices H : ∀ (q i : Nat), i + q = s_told s → Om g M_S_plannedFinds (d + 4) Q h 4 [some (.ref o), some (.long (lN (wo s (s_pl s) i))), none, some (.int (nI i))] [] from H _ 0 (Nat.zero_add _)
  intro q
  induction q with
  | zero =>
    intro i hi
    have ei : i = s_told s := by omega
    refine k_iload_n rfl rfl ?_
    refine k_aload_n rfl rfl ?_
    refine k_gI rfl rfl (sc_o S) (pc_told P) ?_
    refine kn_ge rfl (by omega) (by omega) (fun c9 => ?_) (fun c9 => ?_)
    · refine k_lload_n rfl rfl ?_
      refine k_lret rfl rfl (Nat.le_refl _) (Nat.le_refl _) ?_
      rw [ei]; exact hQ
    · exact absurd c9 (by omega)
  | succ q ih =>
    intro i hi
    have hk : i < s_told s := by omega
    have hpi := (pc_m P).1 i (by omega)
    refine k_iload_n rfl rfl ?_
    refine k_aload_n rfl rfl ?_
    refine k_gI rfl rfl (sc_o S) (pc_told P) ?_
    refine kn_ge rfl (by omega) (by omega) (fun c9 => ?_) (fun c9 => ?_)
    · exact absurd c9 (by omega)
    · refine k_lload_n rfl rfl ?_
      refine k_aload_n rfl rfl ?_
      refine k_getR rfl rfl (sc_o S) (sc_told S) ?_
      refine k_iload_n rfl rfl ?_
      refine k_aald (q := ca o (p i)) rfl (sc_a2 S) rfl (by decide) rfl (by omega) (by decide) (pc_r P i (by omega)) ?_
      refine k_aload_n rfl rfl ?_
      refine k_getR rfl rfl (sc_o S) (sc_told S) ?_
      refine k_iload_n rfl rfl ?_
      refine k_aald (q := ca o (p i)) rfl (sc_a2 S) rfl (by decide) rfl (by omega) (by decide) (pc_r P i (by omega)) ?_
      refine k_getR rfl rfl (sc_c S (p i) hpi).1 (sc_c S (p i) hpi).2.2.2.2.2.2.2.2.1 ?_
      refine k_aload_n rfl rfl ?_
      refine k_getR rfl rfl (sc_o S) (sc_rates S) ?_
      refine k_cVN2 rfl cw_C_finds (nsM (i := 6) rfl) (sc_c S (p i) hpi).1 rfl (by decide) (Nat.le_of_ble_eq_true rfl) ?_
      refine c_C_finds (f := fun l => s_pl s l i) I (cB_of P hk) (sc_c S (p i) hpi).2.2.1 (pc_t P i hk).2.2.2.2.1 (fun l hl => by have := v_pl I l i hl (by omega); omega) ?_
      refine k_laddN rfl ?_
      refine k_lst1 rfl rfl ?_
      refine k_incN3 rfl rfl ?_
      refine k_goto rfl ?_
      exact ih (i + 1) (by omega)
theorem i01 {q : Int32} (h : ¬ (q < 0 ∨ 1 < q)) : q = 0 ∨ q = 1 := by
  have h1 : ¬ q < 0 := fun z => h (Or.inl z)
  have h2 : ¬ 1 < q := fun z => h (Or.inr z)
  obtain ⟨k, hk, e⟩ := nI_of h1
  subst e
  have h3 : ¬ nI 1 < nI k := by rw [nI_one]; exact h2
  have h4 : k ≤ 1 := Nat.not_lt.mp (fun z => h3 (nI_lt z hk))
  have h5 : k = 0 ∨ k = 1 := by omega
  rcases h5 with e | e
  · subst e; exact Or.inl nI_0
  · subst e; exact Or.inr nI_one
theorem pt_m1 {a b : Nat} {q : Int32} (h : (decide (q = 0) || decide (q = 1)) = false) : ptI a b q = -1 := by
  unfold ptI
  rw [if_pos]
  refine Decidable.byContradiction (fun z => ?_)
  rcases i01 z with e | e <;> subst e <;> simp at h
theorem z01 {q : Int32} (h : (decide (q = 0) || decide (q = 1)) = true) : q = 0 ∨ q = 1 := by simpa using h
theorem c_S_found {g : Gx} {h : Hp} {o d : Nat} {p : Nat → Nat} {s : St} {Q : Option Value → Hp → Prop} (P : PC g h o p s) (I : Inv s) (q : Int32) (hQ : Q (some (.long (fdS s q))) h) : Ct g M_S_found (d + 5) 0 0 [.ref o, .int q] h Q := by
  have S := pc_S P
  have bT := v_told I
  have bL := v_lkr I
  refine ct_of ok_S_found (by decide) (Nat.le_of_ble_eq_true rfl) [some (.ref o), some (.int q), none, none, none] rfl rfl ?_
  have hws := wsN_le I (s_told s) (Nat.le_refl _)
  have hwo := wo_le I (s_pl s) (s_told s) (Nat.le_refl _)
  have hpt : (decide (q = 0) || decide (q = 1)) = false → ptI (wo s (s_pl s) (s_told s)) (wsN s (s_told s) * 268738560000) q = -1 := fun z => pt_m1 z
  unfold fdS at hQ
  refine k_iload_n rfl rfl ?_
  refine k_cS1 rfl cw_S_isZeroOrOne wd_185 (by decide) (Nat.le_of_ble_eq_true rfl) ?_
  refine c_S_isZeroOrOne q ?_
  refine kb_ne rfl (fun c4 => ?_) (fun c4 => ?_)
  · refine k_lconst (v := lN 0) rfl (by decide) ?_
    refine k_lst2 rfl rfl ?_
    refine k_iconst (v := nI 0) rfl (by decide) ?_
    refine k_ist4 rfl rfl ?_
    suffices H : ∀ (q9 i : Nat), i + q9 = s_told s → Om g M_S_found (d + 5) Q h 16 [some (.ref o), some (.int q), some (.long (lN (wsN s i))), none, some (.int (nI i))] [] from H _ 0 (Nat.zero_add _)
    intro q9
    induction q9 with
    | zero =>
      intro i hi
      have ei : i = s_told s := by omega
      subst ei
      refine k_iload rfl rfl ?_
      refine k_aload_n rfl rfl ?_
      refine k_gI rfl rfl (sc_o S) (pc_told P) ?_
      refine kn_ge rfl (by omega) (by omega) (fun c22 => ?_) (fun c22 => ?_)
      · refine k_aload_n rfl rfl ?_
        refine k_cV0 rfl cw_S_plannedFinds wd_269 (sc_o S) rfl (by decide) (Nat.le_of_ble_eq_true rfl) ?_
        refine c_S_plannedFinds P I ?_
        refine k_lload_n rfl rfl ?_
        refine k_ldc2 rfl wd_308 ?_
        rw [lN_W]
        refine k_lmulN rfl ?_
        refine k_iload_n rfl rfl ?_
        refine k_cS3 rfl cw_S_fraction wd_189 (by decide) (Nat.le_of_ble_eq_true rfl) ?_
        refine c_S_fraction (by omega) (by omega) (z01 c4) ?_
        refine k_lret rfl rfl (Nat.le_refl _) (Nat.le_refl _) ?_
        exact hQ
      · exact absurd c22 (by omega)
    | succ q9 ih =>
      intro i hi
      have hk : i < s_told s := by omega
      have hpi := (pc_m P).1 i (by omega)
      refine k_iload rfl rfl ?_
      refine k_aload_n rfl rfl ?_
      refine k_gI rfl rfl (sc_o S) (pc_told P) ?_
      refine kn_ge rfl (by omega) (by omega) (fun c22 => ?_) (fun c22 => ?_)
      · exact absurd c22 (by omega)
      · refine k_lload_n rfl rfl ?_
        refine k_aload_n rfl rfl ?_
        refine k_getR rfl rfl (sc_o S) (sc_told S) ?_
        refine k_iload rfl rfl ?_
        refine k_aald (q := ca o (p i)) rfl (sc_a2 S) rfl (by decide) rfl (by omega) (by decide) (pc_r P i (by omega)) ?_
        refine k_cVN0 rfl cw_C_weight (nsM (i := 9) rfl) (sc_c S (p i) hpi).1 rfl (by decide) (Nat.le_of_ble_eq_true rfl) ?_
        refine c_C_weight I (cB_of P hk) ?_
        refine k_laddN rfl ?_
        refine k_lst2 rfl rfl ?_
        refine k_incN4 rfl rfl ?_
        refine k_goto rfl ?_
        exact ih (i + 1) (by omega)
  · refine k_ldc2 rfl wd_188 ?_
    refine k_lret rfl rfl (Nat.le_refl _) (Nat.le_refl _) ?_
    rw [hpt c4] at hQ; exact hQ
theorem c_S_sums {g : Gx} {h : Hp} {o d : Nat} {p : Nat → Nat} {s : St} {Q : Option Value → Hp → Prop} (P : PC g h o p s) (I : Inv s) (hQ : Q (some (.int (bI (smS s)))) h) : Ct g M_S_sums (d + 5) 0 0 [.ref o] h Q := by
  have S := pc_S P
  have bT := v_told I
  have bL := v_lkr I
  refine ct_of ok_S_sums (by decide) (Nat.le_of_ble_eq_true rfl) [some (.ref o)] rfl rfl ?_
  have hal := lfN_le I (s_told s) (Nat.le_refl _)
  have hcb := v_cells I
  unfold smS at hQ
  cases hs : s_seen s with
  | some q =>
    have hq := v_seen I q hs
    rw [hs] at hQ
    refine k_aload_n rfl rfl ?_
    refine k_gI (x := nI q) rfl rfl (sc_o S) ((pc_seen P).trans (by rw [hs]; rfl)) ?_
    refine k_iconst (v := -1) rfl (by decide) ?_
    refine k_icmp_ne rfl (fun c5 => ?_) (fun c5 => ?_)
    · refine k_iconst (v := nI 1) rfl (by decide) ?_
      refine k_goto rfl ?_
      refine k_zret rfl rfl (by decide) (Nat.le_refl _) (Nat.le_refl _) ?_
      exact hQ
    · exact absurd c5 (nI_m1 (by omega))
  | none =>
    rw [hs] at hQ
    refine k_aload_n rfl rfl ?_
    refine k_gI (x := -1) rfl rfl (sc_o S) ((pc_seen P).trans (by rw [hs]; rfl)) ?_
    refine k_iconst (v := -1) rfl (by decide) ?_
    refine k_icmp_ne rfl (fun c5 => ?_) (fun c5 => ?_)
    · exact absurd rfl c5
    · refine k_aload_n rfl rfl ?_
      refine k_cV0 rfl cw_S_allRemains wd_295 (sc_o S) rfl (by decide) (Nat.le_of_ble_eq_true rfl) ?_
      refine c_S_allRemains P I ?_
      refine k_lconst (v := lN 0) rfl (by decide) ?_
      refine klN_le rfl rfl (by omega) (by omega) (fun c13 => ?_) (fun c13 => ?_)
      · refine k_iconst (v := nI 0) rfl (by decide) ?_
        refine k_zret rfl rfl (by decide) (Nat.le_refl _) (Nat.le_refl _) ?_
        rw [show decide (0 < lfN s (s_told s)) = false from decide_eq_false (by omega)] at hQ; exact hQ
      · refine k_iconst (v := nI 1) rfl (by decide) ?_
        refine k_goto rfl ?_
        refine k_zret rfl rfl (by decide) (Nat.le_refl _) (Nat.le_refl _) ?_
        rw [show decide (0 < lfN s (s_told s)) = true from decide_eq_true (by omega)] at hQ; exact hQ
theorem c_S_of {g : Gx} {h : Hp} {o d : Nat} {p : Nat → Nat} {s : St} {Q : Option Value → Hp → Prop} (P : PC g h o p s) (I : Inv s) (l c : Int32) (hQ : Q (some (.int (ofS s l c))) h) : Ct g M_S_of (d + 1) 0 0 [.ref o, .int l, .int c] h Q := by
  have S := pc_S P
  have bT := v_told I
  have bL := v_lkr I
  refine ct_of ok_S_of (by decide) (Nat.le_of_ble_eq_true rfl) [some (.ref o), some (.int l), some (.int c), none] rfl rfl ?_
  unfold ofS at hQ
  cases hp : plS s c with
  | none =>
    rw [hp] at hQ
    refine k_aload_n rfl rfl ?_
    refine k_iload_n rfl rfl ?_
    refine k_cV1 rfl cw_S_isLooker wd_212 (sc_o S) rfl (by decide) (Nat.le_of_ble_eq_true rfl) ?_
    refine c_S_isLooker P I l ?_
    refine kb_eq rfl (fun c5 => ?_) (fun c5 => ?_)
    · refine k_iconst (v := -1) rfl (by decide) ?_
      refine k_iret rfl rfl (Nat.le_refl _) (Nat.le_refl _) ?_
      rw [c5] at hQ; exact hQ
    · refine k_aload_n rfl rfl ?_
      refine k_iload_n rfl rfl ?_
      refine k_cV1 rfl cw_S_isCell wd_164 (sc_o S) rfl (by decide) (Nat.le_of_ble_eq_true rfl) ?_
      refine c_S_isCell P I c ?_
      refine kb_ne rfl (fun c13 => ?_) (fun c13 => ?_)
      · refine k_aload_n rfl rfl ?_
        refine k_iload_n rfl rfl ?_
        refine k_cV1 rfl cw_S_placeOf wd_173 (sc_o S) rfl (by decide) (Nat.le_of_ble_eq_true rfl) ?_
        refine c_S_placeOf P I c ?_
        rw [hp]
        refine k_ist3 rfl rfl ?_
        refine k_iload_n rfl rfl ?_
        refine k_iconst (v := -1) rfl (by decide) ?_
        refine k_icmp_ne rfl (fun c26 => ?_) (fun c26 => ?_)
        · exact absurd rfl c26
        · refine k_iconst (v := nI 0) rfl (by decide) ?_
          refine k_goto rfl ?_
          refine k_iret rfl rfl (Nat.le_refl _) (Nat.le_refl _) ?_
          rw [c5, c13] at hQ; exact hQ
      · refine k_iconst (v := -1) rfl (by decide) ?_
        refine k_iret rfl rfl (Nat.le_refl _) (Nat.le_refl _) ?_
        rw [c5, c13] at hQ; exact hQ
  | some i =>
    have hk := plS_lt hp
    have hpi := (pc_m P).1 i (by omega)
    rw [hp] at hQ
    refine k_aload_n rfl rfl ?_
    refine k_iload_n rfl rfl ?_
    refine k_cV1 rfl cw_S_isLooker wd_212 (sc_o S) rfl (by decide) (Nat.le_of_ble_eq_true rfl) ?_
    refine c_S_isLooker P I l ?_
    refine kb_eq rfl (fun c5 => ?_) (fun c5 => ?_)
    · refine k_iconst (v := -1) rfl (by decide) ?_
      refine k_iret rfl rfl (Nat.le_refl _) (Nat.le_refl _) ?_
      rw [c5] at hQ; exact hQ
    · obtain ⟨l0, hl0, el, ecl⟩ := isc_of (by omega) c5
      refine k_aload_n rfl rfl ?_
      refine k_iload_n rfl rfl ?_
      refine k_cV1 rfl cw_S_isCell wd_164 (sc_o S) rfl (by decide) (Nat.le_of_ble_eq_true rfl) ?_
      refine c_S_isCell P I c ?_
      refine kb_ne rfl (fun c13 => ?_) (fun c13 => ?_)
      · refine k_aload_n rfl rfl ?_
        refine k_iload_n rfl rfl ?_
        refine k_cV1 rfl cw_S_placeOf wd_173 (sc_o S) rfl (by decide) (Nat.le_of_ble_eq_true rfl) ?_
        refine c_S_placeOf P I c ?_
        rw [hp]
        refine k_ist3 rfl rfl ?_
        refine k_iload_n rfl rfl ?_
        refine k_iconst (v := -1) rfl (by decide) ?_
        refine k_icmp_ne rfl (fun c26 => ?_) (fun c26 => ?_)
        · refine k_aload_n rfl rfl ?_
          refine k_getR rfl rfl (sc_o S) (sc_told S) ?_
          refine k_iload_n rfl rfl ?_
          refine k_aald (q := ca o (p i)) rfl (sc_a2 S) rfl (by decide) rfl (by omega) (by decide) (pc_r P i (by omega)) ?_
          refine k_getR rfl rfl (sc_c S (p i) hpi).1 (sc_c S (p i) hpi).2.2.2.2.2.2.2.2.1 ?_
          refine k_iload_n rfl rfl ?_
          refine k_iA rfl (sc_c S (p i) hpi).2.2.1 (j := l0) el (by omega) (by decide) ((pc_t P i hk).2.2.2.2.1 l0 (by omega)) ?_
          refine k_iret rfl rfl (Nat.le_refl _) (Nat.le_refl _) ?_
          rw [c5, c13, ecl] at hQ; exact hQ
        · exact absurd c26 (nI_m1 (by omega))
      · refine k_iconst (v := -1) rfl (by decide) ?_
        refine k_iret rfl rfl (Nat.le_refl _) (Nat.le_refl _) ?_
        rw [c5, c13] at hQ; exact hQ
end
section
/-- odds, as the class has them -/
def odC (s : St) (c q : Int32) : Int64 := cond (isc (nI (s_cells s)) c) (match s_seen s with
  | some y => ptI (if nI y = c then 1 else 0) 1 q
  | none => ptI (opN (plS s c) (s_cn s 0)) (alN s (s_told s)) q) (-1)
theorem c_S_odds {g : Gx} {h : Hp} {o d : Nat} {p : Nat → Nat} {s : St} {Q : Option Value → Hp → Prop} (P : PC g h o p s) (I : Inv s) (c q : Int32) (hQ : Q (some (.long (odC s c q))) h) : Ct g M_S_odds (d + 5) 0 0 [.ref o, .int c, .int q] h Q := by
  have S := pc_S P
  have bT := v_told I
  have bL := v_lkr I
  refine ct_of ok_S_odds (by decide) (Nat.le_of_ble_eq_true rfl) [some (.ref o), some (.int c), some (.int q), none] rfl rfl ?_
  have hal := alN_le I (s_told s) (Nat.le_refl _)
  have hcb := v_cells I
  unfold odC at hQ
  cases hs : s_seen s with
  | some y =>
    have hy := v_seen I y hs
    rw [hs] at hQ
    simp only at hQ
    refine k_aload_n rfl rfl ?_
    refine k_iload_n rfl rfl ?_
    refine k_cV1 rfl cw_S_isCell wd_164 (sc_o S) rfl (by decide) (Nat.le_of_ble_eq_true rfl) ?_
    refine c_S_isCell P I c ?_
    refine kb_eq rfl (fun c5 => ?_) (fun c5 => ?_)
    · refine k_ldc2 rfl wd_188 ?_
      refine k_lret rfl rfl (Nat.le_refl _) (Nat.le_refl _) ?_
      rw [c5] at hQ; exact hQ
    · refine k_iload_n rfl rfl ?_
      refine k_cS1 rfl cw_S_isZeroOrOne wd_185 (by decide) (Nat.le_of_ble_eq_true rfl) ?_
      refine c_S_isZeroOrOne q ?_
      refine kb_ne rfl (fun c12 => ?_) (fun c12 => ?_)
      · refine k_aload_n rfl rfl ?_
        refine k_gI (x := nI y) rfl rfl (sc_o S) ((pc_seen P).trans (by rw [hs]; rfl)) ?_
        refine k_iconst (v := -1) rfl (by decide) ?_
        refine k_icmp_eq rfl (fun c24 => ?_) (fun c24 => ?_)
        · exact absurd c24 (nI_m1 (by omega))
        · refine k_iload_n rfl rfl ?_
          refine k_aload_n rfl rfl ?_
          refine k_gI (x := nI y) rfl rfl (sc_o S) ((pc_seen P).trans (by rw [hs]; rfl)) ?_
          refine k_icmp_ne rfl (fun c32 => ?_) (fun c32 => ?_)
          · refine k_lconst (v := lN 0) rfl (by decide) ?_
            refine k_lconst (v := lN 1) rfl (by decide) ?_
            refine k_iload_n rfl rfl ?_
            refine k_cS3 rfl cw_S_fraction wd_189 (by decide) (Nat.le_of_ble_eq_true rfl) ?_
            refine c_S_fraction (by decide) (by decide) (z01 c12) ?_
            refine k_lret rfl rfl (Nat.le_refl _) (Nat.le_refl _) ?_
            rw [c5, if_neg (fun z => c32 z.symm)] at hQ; exact hQ
          · refine k_lconst (v := lN 1) rfl (by decide) ?_
            refine k_goto rfl ?_
            refine k_lconst (v := lN 1) rfl (by decide) ?_
            refine k_iload_n rfl rfl ?_
            refine k_cS3 rfl cw_S_fraction wd_189 (by decide) (Nat.le_of_ble_eq_true rfl) ?_
            refine c_S_fraction (by decide) (by decide) (z01 c12) ?_
            refine k_lret rfl rfl (Nat.le_refl _) (Nat.le_refl _) ?_
            rw [c5, if_pos c32.symm] at hQ; exact hQ
      · refine k_ldc2 rfl wd_188 ?_
        refine k_lret rfl rfl (Nat.le_refl _) (Nat.le_refl _) ?_
        rw [c5, pt_m1 c12] at hQ; exact hQ
  | none =>
    rw [hs] at hQ
    cases hp : plS s c with
    | none =>
      rw [hp] at hQ
      refine k_aload_n rfl rfl ?_
      refine k_iload_n rfl rfl ?_
      refine k_cV1 rfl cw_S_isCell wd_164 (sc_o S) rfl (by decide) (Nat.le_of_ble_eq_true rfl) ?_
      refine c_S_isCell P I c ?_
      refine kb_eq rfl (fun c5 => ?_) (fun c5 => ?_)
      · refine k_ldc2 rfl wd_188 ?_
        refine k_lret rfl rfl (Nat.le_refl _) (Nat.le_refl _) ?_
        rw [c5] at hQ; exact hQ
      · refine k_iload_n rfl rfl ?_
        refine k_cS1 rfl cw_S_isZeroOrOne wd_185 (by decide) (Nat.le_of_ble_eq_true rfl) ?_
        refine c_S_isZeroOrOne q ?_
        refine kb_ne rfl (fun c12 => ?_) (fun c12 => ?_)
        · refine k_aload_n rfl rfl ?_
          refine k_gI (x := -1) rfl rfl (sc_o S) ((pc_seen P).trans (by rw [hs]; rfl)) ?_
          refine k_iconst (v := -1) rfl (by decide) ?_
          refine k_icmp_eq rfl (fun c24 => ?_) (fun c24 => ?_)
          · refine k_aload_n rfl rfl ?_
            refine k_iload_n rfl rfl ?_
            refine k_cV1 rfl cw_S_placeOf wd_173 (sc_o S) rfl (by decide) (Nat.le_of_ble_eq_true rfl) ?_
            refine c_S_placeOf P I c ?_
            rw [hp]
            refine k_ist3 rfl rfl ?_
            refine k_iload_n rfl rfl ?_
            refine k_iconst (v := -1) rfl (by decide) ?_
            refine k_icmp_ne rfl (fun c54 => ?_) (fun c54 => ?_)
            · exact absurd rfl c54
            · refine k_lconst (v := lN 0) rfl (by decide) ?_
              refine k_goto rfl ?_
              refine k_aload_n rfl rfl ?_
              refine k_cV0 rfl cw_S_allCounts wd_195 (sc_o S) rfl (by decide) (Nat.le_of_ble_eq_true rfl) ?_
              refine c_S_allCounts P I ?_
              refine k_iload_n rfl rfl ?_
              refine k_cS3 rfl cw_S_fraction wd_189 (by decide) (Nat.le_of_ble_eq_true rfl) ?_
              refine c_S_fraction (by decide) (by omega) (z01 c12) ?_
              refine k_lret rfl rfl (Nat.le_refl _) (Nat.le_refl _) ?_
              rw [c5] at hQ; exact hQ
          · exact absurd rfl c24
        · refine k_ldc2 rfl wd_188 ?_
          refine k_lret rfl rfl (Nat.le_refl _) (Nat.le_refl _) ?_
          rw [c5] at hQ; simp only [cond_true] at hQ; rw [pt_m1 c12] at hQ; exact hQ
    | some i =>
      have hk := plS_lt hp
      have hpi := (pc_m P).1 i (by omega)
      have hc := v_cn I 0 i (by decide) hk
      have hm0 := m0_le I hk
      rw [hp] at hQ
      refine k_aload_n rfl rfl ?_
      refine k_iload_n rfl rfl ?_
      refine k_cV1 rfl cw_S_isCell wd_164 (sc_o S) rfl (by decide) (Nat.le_of_ble_eq_true rfl) ?_
      refine c_S_isCell P I c ?_
      refine kb_eq rfl (fun c5 => ?_) (fun c5 => ?_)
      · refine k_ldc2 rfl wd_188 ?_
        refine k_lret rfl rfl (Nat.le_refl _) (Nat.le_refl _) ?_
        rw [c5] at hQ; exact hQ
      · refine k_iload_n rfl rfl ?_
        refine k_cS1 rfl cw_S_isZeroOrOne wd_185 (by decide) (Nat.le_of_ble_eq_true rfl) ?_
        refine c_S_isZeroOrOne q ?_
        refine kb_ne rfl (fun c12 => ?_) (fun c12 => ?_)
        · refine k_aload_n rfl rfl ?_
          refine k_gI (x := -1) rfl rfl (sc_o S) ((pc_seen P).trans (by rw [hs]; rfl)) ?_
          refine k_iconst (v := -1) rfl (by decide) ?_
          refine k_icmp_eq rfl (fun c24 => ?_) (fun c24 => ?_)
          · refine k_aload_n rfl rfl ?_
            refine k_iload_n rfl rfl ?_
            refine k_cV1 rfl cw_S_placeOf wd_173 (sc_o S) rfl (by decide) (Nat.le_of_ble_eq_true rfl) ?_
            refine c_S_placeOf P I c ?_
            rw [hp]
            refine k_ist3 rfl rfl ?_
            refine k_iload_n rfl rfl ?_
            refine k_iconst (v := -1) rfl (by decide) ?_
            refine k_icmp_ne rfl (fun c54 => ?_) (fun c54 => ?_)
            · refine k_aload_n rfl rfl ?_
              refine k_getR rfl rfl (sc_o S) (sc_told S) ?_
              refine k_iload_n rfl rfl ?_
              refine k_aald (q := ca o (p i)) rfl (sc_a2 S) rfl (by decide) rfl (by omega) (by decide) (pc_r P i (by omega)) ?_
              refine k_getR rfl rfl (sc_c S (p i) hpi).1 (sc_c S (p i) hpi).2.2.2.2.2.2.2.1 ?_
              refine k_iconst (v := nI 0) rfl (by decide) ?_
              refine k_iA rfl (sc_c S (p i) hpi).2.1 (j := 0) rfl (by decide) (by decide) ((pc_t P i hk).2.2.2.1 0 (by decide)) ?_
              refine k_i2lN rfl (by omega) ?_
              refine k_aload_n rfl rfl ?_
              refine k_cV0 rfl cw_S_allCounts wd_195 (sc_o S) rfl (by decide) (Nat.le_of_ble_eq_true rfl) ?_
              refine c_S_allCounts P I ?_
              refine k_iload_n rfl rfl ?_
              refine k_cS3 rfl cw_S_fraction wd_189 (by decide) (Nat.le_of_ble_eq_true rfl) ?_
              refine c_S_fraction (by omega) (by omega) (z01 c12) ?_
              refine k_lret rfl rfl (Nat.le_refl _) (Nat.le_refl _) ?_
              rw [c5] at hQ; exact hQ
            · exact absurd c54 (nI_m1 (by omega))
          · exact absurd rfl c24
        · refine k_ldc2 rfl wd_188 ?_
          refine k_lret rfl rfl (Nat.le_refl _) (Nat.le_refl _) ?_
          rw [c5] at hQ; simp only [cond_true] at hQ; rw [pt_m1 c12] at hQ; exact hQ
theorem c_S_after {g : Gx} {h : Hp} {o d : Nat} {p : Nat → Nat} {s : St} {Q : Option Value → Hp → Prop} (P : PC g h o p s) (I : Inv s) (c q : Int32) (hQ : Q (some (.long (afS s c q))) h) : Ct g M_S_after (d + 5) 0 0 [.ref o, .int c, .int q] h Q := by
  have S := pc_S P
  have bT := v_told I
  have bL := v_lkr I
  refine ct_of ok_S_after (by decide) (Nat.le_of_ble_eq_true rfl) [some (.ref o), some (.int c), some (.int q), none] rfl rfl ?_
  have hal := lfN_le I (s_told s) (Nat.le_refl _)
  have hcb := v_cells I
  unfold afS at hQ
  cases hs : s_seen s with
  | some y =>
    have hy := v_seen I y hs
    rw [hs] at hQ
    simp only at hQ
    refine k_aload_n rfl rfl ?_
    refine k_iload_n rfl rfl ?_
    refine k_cV1 rfl cw_S_isCell wd_164 (sc_o S) rfl (by decide) (Nat.le_of_ble_eq_true rfl) ?_
    refine c_S_isCell P I c ?_
    refine kb_eq rfl (fun c5 => ?_) (fun c5 => ?_)
    · refine k_ldc2 rfl wd_188 ?_
      refine k_lret rfl rfl (Nat.le_refl _) (Nat.le_refl _) ?_
      rw [c5] at hQ; exact hQ
    · refine k_iload_n rfl rfl ?_
      refine k_cS1 rfl cw_S_isZeroOrOne wd_185 (by decide) (Nat.le_of_ble_eq_true rfl) ?_
      refine c_S_isZeroOrOne q ?_
      refine kb_ne rfl (fun c12 => ?_) (fun c12 => ?_)
      · refine k_aload_n rfl rfl ?_
        refine k_gI (x := nI y) rfl rfl (sc_o S) ((pc_seen P).trans (by rw [hs]; rfl)) ?_
        refine k_iconst (v := -1) rfl (by decide) ?_
        refine k_icmp_eq rfl (fun c24 => ?_) (fun c24 => ?_)
        · exact absurd c24 (nI_m1 (by omega))
        · refine k_iload_n rfl rfl ?_
          refine k_aload_n rfl rfl ?_
          refine k_gI (x := nI y) rfl rfl (sc_o S) ((pc_seen P).trans (by rw [hs]; rfl)) ?_
          refine k_icmp_ne rfl (fun c32 => ?_) (fun c32 => ?_)
          · refine k_lconst (v := lN 0) rfl (by decide) ?_
            refine k_lconst (v := lN 1) rfl (by decide) ?_
            refine k_iload_n rfl rfl ?_
            refine k_cS3 rfl cw_S_fraction wd_189 (by decide) (Nat.le_of_ble_eq_true rfl) ?_
            refine c_S_fraction (by decide) (by decide) (z01 c12) ?_
            refine k_lret rfl rfl (Nat.le_refl _) (Nat.le_refl _) ?_
            rw [c5, if_neg (fun z => c32 z.symm)] at hQ; exact hQ
          · refine k_lconst (v := lN 1) rfl (by decide) ?_
            refine k_goto rfl ?_
            refine k_lconst (v := lN 1) rfl (by decide) ?_
            refine k_iload_n rfl rfl ?_
            refine k_cS3 rfl cw_S_fraction wd_189 (by decide) (Nat.le_of_ble_eq_true rfl) ?_
            refine c_S_fraction (by decide) (by decide) (z01 c12) ?_
            refine k_lret rfl rfl (Nat.le_refl _) (Nat.le_refl _) ?_
            rw [c5, if_pos c32.symm] at hQ; exact hQ
      · refine k_ldc2 rfl wd_188 ?_
        refine k_lret rfl rfl (Nat.le_refl _) (Nat.le_refl _) ?_
        rw [c5, pt_m1 c12] at hQ; exact hQ
  | none =>
    rw [hs] at hQ
    cases hp : plS s c with
    | none =>
      rw [hp] at hQ
      refine k_aload_n rfl rfl ?_
      refine k_iload_n rfl rfl ?_
      refine k_cV1 rfl cw_S_isCell wd_164 (sc_o S) rfl (by decide) (Nat.le_of_ble_eq_true rfl) ?_
      refine c_S_isCell P I c ?_
      refine kb_eq rfl (fun c5 => ?_) (fun c5 => ?_)
      · refine k_ldc2 rfl wd_188 ?_
        refine k_lret rfl rfl (Nat.le_refl _) (Nat.le_refl _) ?_
        rw [c5] at hQ; exact hQ
      · refine k_iload_n rfl rfl ?_
        refine k_cS1 rfl cw_S_isZeroOrOne wd_185 (by decide) (Nat.le_of_ble_eq_true rfl) ?_
        refine c_S_isZeroOrOne q ?_
        refine kb_ne rfl (fun c12 => ?_) (fun c12 => ?_)
        · refine k_aload_n rfl rfl ?_
          refine k_gI (x := -1) rfl rfl (sc_o S) ((pc_seen P).trans (by rw [hs]; rfl)) ?_
          refine k_iconst (v := -1) rfl (by decide) ?_
          refine k_icmp_eq rfl (fun c24 => ?_) (fun c24 => ?_)
          · refine k_aload_n rfl rfl ?_
            refine k_iload_n rfl rfl ?_
            refine k_cV1 rfl cw_S_placeOf wd_173 (sc_o S) rfl (by decide) (Nat.le_of_ble_eq_true rfl) ?_
            refine c_S_placeOf P I c ?_
            rw [hp]
            refine k_ist3 rfl rfl ?_
            refine k_iload_n rfl rfl ?_
            refine k_iconst (v := -1) rfl (by decide) ?_
            refine k_icmp_ne rfl (fun c54 => ?_) (fun c54 => ?_)
            · exact absurd rfl c54
            · refine k_lconst (v := lN 0) rfl (by decide) ?_
              refine k_goto rfl ?_
              refine k_aload_n rfl rfl ?_
              refine k_cV0 rfl cw_S_allRemains wd_295 (sc_o S) rfl (by decide) (Nat.le_of_ble_eq_true rfl) ?_
              refine c_S_allRemains P I ?_
              refine k_iload_n rfl rfl ?_
              refine k_cS3 rfl cw_S_fraction wd_189 (by decide) (Nat.le_of_ble_eq_true rfl) ?_
              refine c_S_fraction (by decide) (by omega) (z01 c12) ?_
              refine k_lret rfl rfl (Nat.le_refl _) (Nat.le_refl _) ?_
              rw [c5] at hQ; exact hQ
          · exact absurd rfl c24
        · refine k_ldc2 rfl wd_188 ?_
          refine k_lret rfl rfl (Nat.le_refl _) (Nat.le_refl _) ?_
          rw [c5] at hQ; simp only [cond_true] at hQ; rw [pt_m1 c12] at hQ; exact hQ
    | some i =>
      have hk := plS_lt hp
      have hpi := (pc_m P).1 i (by omega)
      have hc := v_cn I 0 i (by decide) hk
      have hm0 := m0_le I hk
      rw [hp] at hQ
      refine k_aload_n rfl rfl ?_
      refine k_iload_n rfl rfl ?_
      refine k_cV1 rfl cw_S_isCell wd_164 (sc_o S) rfl (by decide) (Nat.le_of_ble_eq_true rfl) ?_
      refine c_S_isCell P I c ?_
      refine kb_eq rfl (fun c5 => ?_) (fun c5 => ?_)
      · refine k_ldc2 rfl wd_188 ?_
        refine k_lret rfl rfl (Nat.le_refl _) (Nat.le_refl _) ?_
        rw [c5] at hQ; exact hQ
      · refine k_iload_n rfl rfl ?_
        refine k_cS1 rfl cw_S_isZeroOrOne wd_185 (by decide) (Nat.le_of_ble_eq_true rfl) ?_
        refine c_S_isZeroOrOne q ?_
        refine kb_ne rfl (fun c12 => ?_) (fun c12 => ?_)
        · refine k_aload_n rfl rfl ?_
          refine k_gI (x := -1) rfl rfl (sc_o S) ((pc_seen P).trans (by rw [hs]; rfl)) ?_
          refine k_iconst (v := -1) rfl (by decide) ?_
          refine k_icmp_eq rfl (fun c24 => ?_) (fun c24 => ?_)
          · refine k_aload_n rfl rfl ?_
            refine k_iload_n rfl rfl ?_
            refine k_cV1 rfl cw_S_placeOf wd_173 (sc_o S) rfl (by decide) (Nat.le_of_ble_eq_true rfl) ?_
            refine c_S_placeOf P I c ?_
            rw [hp]
            refine k_ist3 rfl rfl ?_
            refine k_iload_n rfl rfl ?_
            refine k_iconst (v := -1) rfl (by decide) ?_
            refine k_icmp_ne rfl (fun c54 => ?_) (fun c54 => ?_)
            · refine k_aload_n rfl rfl ?_
              refine k_getR rfl rfl (sc_o S) (sc_told S) ?_
              refine k_iload_n rfl rfl ?_
              refine k_aald (q := ca o (p i)) rfl (sc_a2 S) rfl (by decide) rfl (by omega) (by decide) (pc_r P i (by omega)) ?_
              refine k_aload_n rfl rfl ?_
              refine k_getR rfl rfl (sc_o S) (sc_rates S) ?_
              refine k_cVN1 rfl cw_C_remains (nsM (i := 8) rfl) (sc_c S (p i) hpi).1 rfl (by decide) (Nat.le_of_ble_eq_true rfl) ?_
              refine c_C_remains I (cB_of P hk) (pc_t P i hk).2.2.2.2.2 ?_
              refine k_aload_n rfl rfl ?_
              refine k_cV0 rfl cw_S_allRemains wd_295 (sc_o S) rfl (by decide) (Nat.le_of_ble_eq_true rfl) ?_
              refine c_S_allRemains P I ?_
              refine k_iload_n rfl rfl ?_
              refine k_cS3 rfl cw_S_fraction wd_189 (by decide) (Nat.le_of_ble_eq_true rfl) ?_
              refine c_S_fraction (show m0 s i < 2 ^ 63 by omega) (by omega) (z01 c12) ?_
              refine k_lret rfl rfl (Nat.le_refl _) (Nat.le_refl _) ?_
              rw [c5] at hQ; exact hQ
            · exact absurd c54 (nI_m1 (by omega))
          · exact absurd rfl c24
        · refine k_ldc2 rfl wd_188 ?_
          refine k_lret rfl rfl (Nat.le_refl _) (Nat.le_refl _) ?_
          rw [c5] at hQ; simp only [cond_true] at hQ; rw [pt_m1 c12] at hQ; exact hQ
theorem c_S_stops {g : Gx} {h : Hp} {o d : Nat} {p : Nat → Nat} {s : St} {Q : Option Value → Hp → Prop} (P : PC g h o p s) (I : Inv s) (hQ : Q (some (.int (stS s))) h) : Ct g M_S_stops (d + 5) 0 0 [.ref o] h Q := by
  have S := pc_S P
  have bT := v_told I
  have bL := v_lkr I
  refine ct_of ok_S_stops (by decide) (Nat.le_of_ble_eq_true rfl) [some (.ref o), none, none] rfl rfl ?_
  have hal := alN_le I (s_told s) (Nat.le_refl _)
  have hlf := lfN_le I (s_told s) (Nat.le_refl _)
  have hab := v_ab I
  have hbl := v_bl I
  have hcb := v_cells I
  have hll : lfN s (s_told s) ≤ alN s (s_told s) * 268738560000 := lf_al s (s_told s)
  have b1 : (alN s (s_told s) * 268738560000 - lfN s (s_told s)) * s_bl s ≤ 10749542400000000 * 100 := Nat.mul_le_mul (show alN s (s_told s) * 268738560000 - lfN s (s_told s) ≤ 10749542400000000 by omega) hbl
  have b2 : s_ab s * (alN s (s_told s) * 268738560000) ≤ 100 * 10749542400000000 := Nat.mul_le_mul (show s_ab s ≤ 100 by omega) (show alN s (s_told s) * 268738560000 ≤ 10749542400000000 by omega)
  have eA : s_ab s * alN s (s_told s) * 268738560000 = s_ab s * (alN s (s_told s) * 268738560000) := Nat.mul_assoc _ _ _
  unfold stS at hQ
  rw [eA] at hQ
  refine k_aload_n rfl rfl ?_
  refine k_cV0 rfl cw_S_allCounts wd_195 (sc_o S) rfl (by decide) (Nat.le_of_ble_eq_true rfl) ?_
  refine c_S_allCounts P I ?_
  refine k_ldc2 rfl wd_308 ?_
  rw [lN_W]
  refine k_lmulN rfl ?_
  refine k_lst1 rfl rfl ?_
  refine k_aload_n rfl rfl ?_
  refine k_gL rfl rfl (sc_o S) (pc_bl P) ?_
  refine k_lconst (v := lN 0) rfl (by decide) ?_
  refine klN_eq rfl rfl (by omega) (by omega) (fun c14 => ?_) (fun c14 => ?_)
  · refine k_iconst (v := -1) rfl (by decide) ?_
    refine k_iret rfl rfl (Nat.le_refl _) (Nat.le_refl _) ?_
    rw [if_pos (Or.inl c14)] at hQ; exact hQ
  · refine k_lload_n rfl rfl ?_
    refine k_lconst (v := lN 0) rfl (by decide) ?_
    refine klN_ne rfl rfl (by omega) (by omega) (fun c20 => ?_) (fun c20 => ?_)
    · refine k_aload_n rfl rfl ?_
      refine k_gI rfl rfl (sc_o S) (pc_seen P) ?_
      refine k_iconst (v := -1) rfl (by decide) ?_
      refine k_icmp_eq rfl (fun c31 => ?_) (fun c31 => ?_)
      · have hse : ¬ s_seen s ≠ none := by
          cases hs : s_seen s with
          | none => simp
          | some q => rw [hs] at c31; exact absurd c31 (nI_m1 (by have := v_seen I q hs; omega))
        refine k_lload_n rfl rfl ?_
        refine k_aload_n rfl rfl ?_
        refine k_cV0 rfl cw_S_allRemains wd_295 (sc_o S) rfl (by decide) (Nat.le_of_ble_eq_true rfl) ?_
        refine c_S_allRemains P I ?_
        refine k_lsubN rfl hll ?_
        refine k_aload_n rfl rfl ?_
        refine k_gL rfl rfl (sc_o S) (pc_bl P) ?_
        refine k_lmulN rfl ?_
        refine k_aload_n rfl rfl ?_
        refine k_gL rfl rfl (sc_o S) (pc_ab P) ?_
        refine k_lload_n rfl rfl ?_
        refine k_lmulN rfl ?_
        refine klN_lt rfl rfl (by omega) (by omega) (fun c53 => ?_) (fun c53 => ?_)
        · refine k_iconst (v := nI 0) rfl (by decide) ?_
          refine k_iret rfl rfl (Nat.le_refl _) (Nat.le_refl _) ?_
          rw [if_neg (by omega), if_neg (by simp only [not_or]; exact ⟨hse, by omega⟩)] at hQ; exact hQ
        · refine k_iconst (v := nI 1) rfl (by decide) ?_
          refine k_goto rfl ?_
          refine k_iret rfl rfl (Nat.le_refl _) (Nat.le_refl _) ?_
          rw [if_neg (by omega), if_pos (Or.inr (by omega))] at hQ; exact hQ
      · have hse : s_seen s ≠ none := fun z => c31 (by rw [z]; rfl)
        refine k_iconst (v := nI 1) rfl (by decide) ?_
        refine k_iret rfl rfl (Nat.le_refl _) (Nat.le_refl _) ?_
        rw [if_neg (by omega), if_pos (Or.inl hse)] at hQ; exact hQ
    · refine k_iconst (v := -1) rfl (by decide) ?_
      refine k_iret rfl rfl (Nat.le_refl _) (Nat.le_refl _) ?_
      rw [if_pos (Or.inr (by omega))] at hQ; exact hQ
theorem wi_isc {n : Nat} (hn : n < 2 ^ 30) (x : Int32) : (decide (lN 0 ≤ x.toInt64) && decide (x.toInt64 ≤ (nI n - nI 1).toInt64)) = isc (nI n) x := by
  have e1 : (lN 0 ≤ x.toInt64) ↔ (0 ≤ x) := by
    rw [Int64.le_iff_toInt_le, Int32.le_iff_toInt_le, Int32.toInt_toInt64, pk_lT (by decide)]
    have : (0 : Int32).toInt = 0 := by decide
    rw [this]; rfl
  have e2 : (x.toInt64 ≤ (nI n - nI 1).toInt64) ↔ (x < nI n) := by
    rw [Int64.le_iff_toInt_le, Int32.lt_iff_toInt_lt, Int32.toInt_toInt64, Int32.toInt_toInt64, pk_sub_toInt hn (by decide), nI_toInt (by omega)]
    omega
  unfold isc
  rw [decide_eq_decide.mpr e1, decide_eq_decide.mpr e2]
theorem c_S_line {g : Gx} {h : Hp} {o d : Nat} {p : Nat → Nat} {s : St} {Q : Option Value → Hp → Prop} (P : PC g h o p s) (I : Inv s) (c k ax : Int32) (hQ : Q (some (.int (lnS s c k ax))) h) : Ct g M_S_line (d + 2) 0 0 [.ref o, .int c, .int k, .int ax] h Q := by
  have S := pc_S P
  have bT := v_told I
  have bL := v_lkr I
  refine ct_of ok_S_line (by decide) (Nat.le_of_ble_eq_true rfl) [some (.ref o), some (.int c), some (.int k), some (.int ax), none, none] rfl rfl ?_
  unfold lnS at hQ
  cases hp : plS s c with
  | none =>
    rw [hp] at hQ
    refine k_aload_n rfl rfl ?_
    refine k_iload_n rfl rfl ?_
    refine k_cV1 rfl cw_S_placeOf wd_173 (sc_o S) rfl (by decide) (Nat.le_of_ble_eq_true rfl) ?_
    refine c_S_placeOf P I c ?_
    rw [hp]
    refine k_ist4 rfl rfl ?_
    refine k_iload rfl rfl ?_
    refine k_iconst (v := -1) rfl (by decide) ?_
    refine k_icmp_eq rfl (fun c10 => ?_) (fun c10 => ?_)
    · refine k_iconst (v := -1) rfl (by decide) ?_
      refine k_iret rfl rfl (Nat.le_refl _) (Nat.le_refl _) ?_
      exact hQ
    · exact absurd rfl c10
  | some i =>
    have hk := plS_lt hp
    have hpi := (pc_m P).1 i (by omega)
    have ha := v_ar I i hk
    have hal := ar_le I hk
    rw [hp] at hQ
    simp only at hQ
    refine k_aload_n rfl rfl ?_
    refine k_iload_n rfl rfl ?_
    refine k_cV1 rfl cw_S_placeOf wd_173 (sc_o S) rfl (by decide) (Nat.le_of_ble_eq_true rfl) ?_
    refine c_S_placeOf P I c ?_
    rw [hp]
    refine k_ist4 rfl rfl ?_
    refine k_iload rfl rfl ?_
    refine k_iconst (v := -1) rfl (by decide) ?_
    refine k_icmp_eq rfl (fun c10 => ?_) (fun c10 => ?_)
    · exact absurd c10 (nI_m1 (by omega))
    · refine k_iload_n rfl rfl ?_
      refine k_i2l rfl ?_
      refine k_lconst (v := lN 0) rfl (by decide) ?_
      refine k_aload_n rfl rfl ?_
      refine k_getR rfl rfl (sc_o S) (sc_told S) ?_
      refine k_iload rfl rfl ?_
      refine k_aald (q := ca o (p i)) rfl (sc_a2 S) rfl (by decide) rfl (by omega) (by decide) (pc_r P i (by omega)) ?_
      refine k_gI rfl rfl (sc_c S (p i) hpi).1 (pc_t P i hk).2.1 ?_
      refine k_iconst (v := nI 1) rfl (by decide) ?_
      refine k_isub rfl ?_
      refine k_i2l rfl ?_
      refine k_cS3 rfl cw_S_isWithin wd_161 (by decide) (Nat.le_of_ble_eq_true rfl) ?_
      refine c_S_isWithin _ _ _ ?_
      rw [wi_isc (by omega)]
      refine kb_eq rfl (fun c32 => ?_) (fun c32 => ?_)
      · refine k_iconst (v := -1) rfl (by decide) ?_
        refine k_iret rfl rfl (Nat.le_refl _) (Nat.le_refl _) ?_
        rw [if_pos (by
          refine Decidable.byContradiction (fun z => ?_)
          simp only [not_or] at z
          rw [isc_t z.2.2.1 (Int32.not_le.mp z.2.2.2)] at c32; cases c32)] at hQ
        exact hQ
      · obtain ⟨j, hj, ej, ecl⟩ := isc_of (by omega) c32
        refine k_iload_n rfl rfl ?_
        refine k_cS1 rfl cw_S_isZeroOrOne wd_185 (by decide) (Nat.le_of_ble_eq_true rfl) ?_
        refine c_S_isZeroOrOne ax ?_
        refine kb_ne rfl (fun c39 => ?_) (fun c39 => ?_)
        · have hw1 := rwN_pos (s_ar s i)
          have hw2 := rwN_le (s_ar s i)
          have hax := z01 c39
          have hnr : ¬ (ax < 0 ∨ 1 < ax ∨ k < 0 ∨ nI (s_ar s i) ≤ k) := by
            intro z
            rcases z with z | z | z | z
            · rcases hax with e | e <;> subst e <;> exact absurd z (by decide)
            · rcases hax with e | e <;> subst e <;> exact absurd z (by decide)
            · rw [ej] at z; exact nI_pos (by omega) z
            · rw [ej] at z; exact nI_ge hj (by omega) z
          rw [if_neg hnr, ecl] at hQ
          clear ecl
          subst ej
          unfold lnN at hQ
          refine k_aload_n rfl rfl ?_
          refine k_getR rfl rfl (sc_o S) (sc_told S) ?_
          refine k_iload rfl rfl ?_
          refine k_aald (q := ca o (p i)) rfl (sc_a2 S) rfl (by decide) rfl (by omega) (by decide) (pc_r P i (by omega)) ?_
          refine k_gI rfl rfl (sc_c S (p i) hpi).1 (pc_t P i hk).2.1 ?_
          refine k_cS1 rfl cw_S_rowWidth wd_313 (by decide) (Nat.le_of_ble_eq_true rfl) ?_
          refine c_S_rowWidth ha.1 hal ?_
          refine k_ist5 rfl rfl ?_
          refine k_iload_n rfl rfl ?_
          refine k_if_ne rfl (fun c60 => ?_) (fun c60 => ?_)
          · refine k_iload_n rfl rfl ?_
            refine k_iload rfl rfl ?_
            refine k_cS2 rfl cw_S_rowOf wd_319 (by decide) (Nat.le_of_ble_eq_true rfl) ?_
            refine c_S_rowOf (by omega) hw1 (by omega) ?_
            refine k_iret rfl rfl (Nat.le_refl _) (Nat.le_refl _) ?_
            rw [if_pos (hax.resolve_left c60)] at hQ; exact hQ
          · refine k_iload_n rfl rfl ?_
            refine k_iload rfl rfl ?_
            refine k_cS2 rfl cw_S_placeInRow wd_316 (by decide) (Nat.le_of_ble_eq_true rfl) ?_
            refine c_S_placeInRow (by omega) hw1 (by omega) ?_
            refine k_goto rfl ?_
            refine k_iret rfl rfl (Nat.le_refl _) (Nat.le_refl _) ?_
            rw [if_neg (by rw [c60]; decide)] at hQ; exact hQ
        · refine k_iconst (v := -1) rfl (by decide) ?_
          refine k_iret rfl rfl (Nat.le_refl _) (Nat.le_refl _) ?_
          rw [if_pos (by
            refine Decidable.byContradiction (fun z => ?_)
            simp only [not_or] at z
            rcases i01 (fun y => y.elim z.1 z.2.1) with e | e <;> subst e <;> simp at c39)] at hQ
          exact hQ
end
