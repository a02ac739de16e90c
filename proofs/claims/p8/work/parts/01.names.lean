-- ===== PART A: goes FIRST, ahead of the names: the tables' words, and 'selects' of the private methods out of them =====
/-- a private method of a class that the tables say can be made, by its rows of tables_1 -/
def lw_okq (q : MethodName × Nat) : Prop := (q.1.cls ≠ "java/lang/invoke/MethodHandle" ∧ q.1.cls ≠ "java/lang/invoke/VarHandle") ∧ Cond.instantiable q.1.cls q.2 ∈ tables_1 ∧ Cond.privateMethod q.1 ∈ tables_1 ∧ Cond.instanceMethod q.1 ∈ tables_1
theorem lw_p0 : lw_okq (⟨"SearchGrids", "isCell", "(I)Z"⟩, 12) := ⟨⟨by decide +kernel, by decide +kernel⟩, List.mem_of_getElem? (i := 8) (by decide +kernel), List.mem_of_getElem? (i := 165) (by decide +kernel), List.mem_of_getElem? (i := 166) (by decide +kernel)⟩
theorem lw_p1 : lw_okq (⟨"SearchGrids", "tellOf", "(I)I"⟩, 12) := ⟨⟨by decide +kernel, by decide +kernel⟩, List.mem_of_getElem? (i := 8) (by decide +kernel), List.mem_of_getElem? (i := 170) (by decide +kernel), List.mem_of_getElem? (i := 171) (by decide +kernel)⟩
theorem lw_p2 : lw_okq (⟨"SearchGrids", "placeOf", "(I)I"⟩, 12) := ⟨⟨by decide +kernel, by decide +kernel⟩, List.mem_of_getElem? (i := 8) (by decide +kernel), List.mem_of_getElem? (i := 174) (by decide +kernel), List.mem_of_getElem? (i := 175) (by decide +kernel)⟩
theorem lw_p3 : lw_okq (⟨"SearchGrids", "dropPlan", "()V"⟩, 12) := ⟨⟨by decide +kernel, by decide +kernel⟩, List.mem_of_getElem? (i := 8) (by decide +kernel), List.mem_of_getElem? (i := 178) (by decide +kernel), List.mem_of_getElem? (i := 179) (by decide +kernel)⟩
theorem lw_p4 : lw_okq (⟨"SearchGrids", "allCounts", "()J"⟩, 12) := ⟨⟨by decide +kernel, by decide +kernel⟩, List.mem_of_getElem? (i := 8) (by decide +kernel), List.mem_of_getElem? (i := 196) (by decide +kernel), List.mem_of_getElem? (i := 197) (by decide +kernel)⟩
theorem lw_p5 : lw_okq (⟨"SearchGrids$Looker", "begin", "(I)V"⟩, 5) := ⟨⟨by decide +kernel, by decide +kernel⟩, List.mem_of_getElem? (i := 63) (by decide +kernel), List.mem_of_getElem? (i := 205) (by decide +kernel), List.mem_of_getElem? (i := 206) (by decide +kernel)⟩
theorem lw_p6 : lw_okq (⟨"SearchGrids", "isLooker", "(I)Z"⟩, 12) := ⟨⟨by decide +kernel, by decide +kernel⟩, List.mem_of_getElem? (i := 8) (by decide +kernel), List.mem_of_getElem? (i := 213) (by decide +kernel), List.mem_of_getElem? (i := 214) (by decide +kernel)⟩
theorem lw_p7 : lw_okq (⟨"SearchGrids$Looker", "takeAway", "(II)V"⟩, 5) := ⟨⟨by decide +kernel, by decide +kernel⟩, List.mem_of_getElem? (i := 63) (by decide +kernel), List.mem_of_getElem? (i := 218) (by decide +kernel), List.mem_of_getElem? (i := 219) (by decide +kernel)⟩
theorem lw_p8 : lw_okq (⟨"SearchGrids$Cell", "reckonGains", "([I)V"⟩, 9) := ⟨⟨by decide +kernel, by decide +kernel⟩, List.mem_of_getElem? (i := 18) (by decide +kernel), List.mem_of_getElem? (i := 230) (by decide +kernel), List.mem_of_getElem? (i := 231) (by decide +kernel)⟩
theorem lw_p9 : lw_okq (⟨"SearchGrids$Cell", "finds", "([I[I)J"⟩, 9) := ⟨⟨by decide +kernel, by decide +kernel⟩, List.mem_of_getElem? (i := 18) (by decide +kernel), List.mem_of_getElem? (i := 234) (by decide +kernel), List.mem_of_getElem? (i := 235) (by decide +kernel)⟩
theorem lw_p10 : lw_okq (⟨"SearchGrids$Cell", "weight", "()J"⟩, 9) := ⟨⟨by decide +kernel, by decide +kernel⟩, List.mem_of_getElem? (i := 18) (by decide +kernel), List.mem_of_getElem? (i := 238) (by decide +kernel), List.mem_of_getElem? (i := 239) (by decide +kernel)⟩
theorem lw_p11 : lw_okq (⟨"SearchGrids$Cell", "missed", "([I[I)J"⟩, 9) := ⟨⟨by decide +kernel, by decide +kernel⟩, List.mem_of_getElem? (i := 18) (by decide +kernel), List.mem_of_getElem? (i := 243) (by decide +kernel), List.mem_of_getElem? (i := 244) (by decide +kernel)⟩
theorem lw_p12 : lw_okq (⟨"SearchGrids$Cell", "missedBy", "(II)J"⟩, 9) := ⟨⟨by decide +kernel, by decide +kernel⟩, List.mem_of_getElem? (i := 18) (by decide +kernel), List.mem_of_getElem? (i := 247) (by decide +kernel), List.mem_of_getElem? (i := 248) (by decide +kernel)⟩
theorem lw_p13 : lw_okq (⟨"SearchGrids", "giveBestHour", "()Z"⟩, 12) := ⟨⟨by decide +kernel, by decide +kernel⟩, List.mem_of_getElem? (i := 8) (by decide +kernel), List.mem_of_getElem? (i := 254) (by decide +kernel), List.mem_of_getElem? (i := 255) (by decide +kernel)⟩
theorem lw_p14 : lw_okq (⟨"SearchGrids", "plannedHours", "()I"⟩, 12) := ⟨⟨by decide +kernel, by decide +kernel⟩, List.mem_of_getElem? (i := 8) (by decide +kernel), List.mem_of_getElem? (i := 266) (by decide +kernel), List.mem_of_getElem? (i := 267) (by decide +kernel)⟩
theorem lw_p15 : lw_okq (⟨"SearchGrids", "plannedFinds", "()J"⟩, 12) := ⟨⟨by decide +kernel, by decide +kernel⟩, List.mem_of_getElem? (i := 8) (by decide +kernel), List.mem_of_getElem? (i := 270) (by decide +kernel), List.mem_of_getElem? (i := 271) (by decide +kernel)⟩
def lw_privs_1 : List (MethodName × Nat) := [(⟨"SearchGrids", "isCell", "(I)Z"⟩, 12), (⟨"SearchGrids", "tellOf", "(I)I"⟩, 12), (⟨"SearchGrids", "placeOf", "(I)I"⟩, 12), (⟨"SearchGrids", "dropPlan", "()V"⟩, 12), (⟨"SearchGrids", "allCounts", "()J"⟩, 12), (⟨"SearchGrids$Looker", "begin", "(I)V"⟩, 5), (⟨"SearchGrids", "isLooker", "(I)Z"⟩, 12), (⟨"SearchGrids$Looker", "takeAway", "(II)V"⟩, 5), (⟨"SearchGrids$Cell", "reckonGains", "([I)V"⟩, 9), (⟨"SearchGrids$Cell", "finds", "([I[I)J"⟩, 9), (⟨"SearchGrids$Cell", "weight", "()J"⟩, 9), (⟨"SearchGrids$Cell", "missed", "([I[I)J"⟩, 9), (⟨"SearchGrids$Cell", "missedBy", "(II)J"⟩, 9), (⟨"SearchGrids", "giveBestHour", "()Z"⟩, 12), (⟨"SearchGrids", "plannedHours", "()I"⟩, 12), (⟨"SearchGrids", "plannedFinds", "()J"⟩, 12)]
theorem lw_r1 : ∀ q ∈ lw_privs_1, lw_okq q := List.forall_mem_cons.mpr ⟨lw_p0, List.forall_mem_cons.mpr ⟨lw_p1, List.forall_mem_cons.mpr ⟨lw_p2, List.forall_mem_cons.mpr ⟨lw_p3, List.forall_mem_cons.mpr ⟨lw_p4, List.forall_mem_cons.mpr ⟨lw_p5, List.forall_mem_cons.mpr ⟨lw_p6, List.forall_mem_cons.mpr ⟨lw_p7, List.forall_mem_cons.mpr ⟨lw_p8, List.forall_mem_cons.mpr ⟨lw_p9, List.forall_mem_cons.mpr ⟨lw_p10, List.forall_mem_cons.mpr ⟨lw_p11, List.forall_mem_cons.mpr ⟨lw_p12, List.forall_mem_cons.mpr ⟨lw_p13, List.forall_mem_cons.mpr ⟨lw_p14, List.forall_mem_cons.mpr ⟨lw_p15, fun _ h => absurd h List.not_mem_nil⟩⟩⟩⟩⟩⟩⟩⟩⟩⟩⟩⟩⟩⟩⟩⟩
theorem lw_p16 : lw_okq (⟨"SearchGrids", "isOutdone", "(IIIJJ)Z"⟩, 12) := ⟨⟨by decide +kernel, by decide +kernel⟩, List.mem_of_getElem? (i := 8) (by decide +kernel), List.mem_of_getElem? (i := 275) (by decide +kernel), List.mem_of_getElem? (i := 276) (by decide +kernel)⟩
theorem lw_p17 : lw_okq (⟨"SearchGrids$LookLog", "add", "(IIIJ)I"⟩, 6) := ⟨⟨by decide +kernel, by decide +kernel⟩, List.mem_of_getElem? (i := 87) (by decide +kernel), List.mem_of_getElem? (i := 284) (by decide +kernel), List.mem_of_getElem? (i := 285) (by decide +kernel)⟩
theorem lw_p18 : lw_okq (⟨"SearchGrids$Cell", "remains", "([I)J"⟩, 9) := ⟨⟨by decide +kernel, by decide +kernel⟩, List.mem_of_getElem? (i := 18) (by decide +kernel), List.mem_of_getElem? (i := 292) (by decide +kernel), List.mem_of_getElem? (i := 293) (by decide +kernel)⟩
theorem lw_p19 : lw_okq (⟨"SearchGrids", "allRemains", "()J"⟩, 12) := ⟨⟨by decide +kernel, by decide +kernel⟩, List.mem_of_getElem? (i := 8) (by decide +kernel), List.mem_of_getElem? (i := 296) (by decide +kernel), List.mem_of_getElem? (i := 297) (by decide +kernel)⟩
theorem lw_p20 : lw_okq (⟨"SearchGrids", "standingOf", "(LSearchGrids$Cell;)J"⟩, 12) := ⟨⟨by decide +kernel, by decide +kernel⟩, List.mem_of_getElem? (i := 8) (by decide +kernel), List.mem_of_getElem? (i := 348) (by decide +kernel), List.mem_of_getElem? (i := 349) (by decide +kernel)⟩
theorem lw_p21 : lw_okq (⟨"SearchGrids", "countBefore", "(I)I"⟩, 12) := ⟨⟨by decide +kernel, by decide +kernel⟩, List.mem_of_getElem? (i := 8) (by decide +kernel), List.mem_of_getElem? (i := 352) (by decide +kernel), List.mem_of_getElem? (i := 353) (by decide +kernel)⟩
theorem lw_p22 : lw_okq (⟨"SearchGridsModel", "isCell", "(I)Z"⟩, 21) := ⟨⟨by decide +kernel, by decide +kernel⟩, List.mem_of_getElem? (i := 372) (by decide +kernel), List.mem_of_getElem? (i := 451) (by decide +kernel), List.mem_of_getElem? (i := 452) (by decide +kernel)⟩
theorem lw_p23 : lw_okq (⟨"SearchGridsModel", "place", "(I)I"⟩, 21) := ⟨⟨by decide +kernel, by decide +kernel⟩, List.mem_of_getElem? (i := 372) (by decide +kernel), List.mem_of_getElem? (i := 456) (by decide +kernel), List.mem_of_getElem? (i := 457) (by decide +kernel)⟩
theorem lw_p24 : lw_okq (⟨"SearchGridsModel", "tell", "(I)I"⟩, 21) := ⟨⟨by decide +kernel, by decide +kernel⟩, List.mem_of_getElem? (i := 372) (by decide +kernel), List.mem_of_getElem? (i := 460) (by decide +kernel), List.mem_of_getElem? (i := 461) (by decide +kernel)⟩
theorem lw_p25 : lw_okq (⟨"SearchGridsModel", "move", "(II)V"⟩, 21) := ⟨⟨by decide +kernel, by decide +kernel⟩, List.mem_of_getElem? (i := 372) (by decide +kernel), List.mem_of_getElem? (i := 464) (by decide +kernel), List.mem_of_getElem? (i := 465) (by decide +kernel)⟩
theorem lw_p26 : lw_okq (⟨"SearchGridsModel", "changed", "()V"⟩, 21) := ⟨⟨by decide +kernel, by decide +kernel⟩, List.mem_of_getElem? (i := 372) (by decide +kernel), List.mem_of_getElem? (i := 468) (by decide +kernel), List.mem_of_getElem? (i := 469) (by decide +kernel)⟩
theorem lw_p27 : lw_okq (⟨"SearchGridsModel", "isLooker", "(I)Z"⟩, 21) := ⟨⟨by decide +kernel, by decide +kernel⟩, List.mem_of_getElem? (i := 372) (by decide +kernel), List.mem_of_getElem? (i := 485) (by decide +kernel), List.mem_of_getElem? (i := 486) (by decide +kernel)⟩
theorem lw_p28 : lw_okq (⟨"SearchGridsModel", "worth", "([I)J"⟩, 21) := ⟨⟨by decide +kernel, by decide +kernel⟩, List.mem_of_getElem? (i := 372) (by decide +kernel), List.mem_of_getElem? (i := 508) (by decide +kernel), List.mem_of_getElem? (i := 509) (by decide +kernel)⟩
theorem lw_p29 : lw_okq (⟨"SearchGridsModel", "weight", "(I)I"⟩, 21) := ⟨⟨by decide +kernel, by decide +kernel⟩, List.mem_of_getElem? (i := 372) (by decide +kernel), List.mem_of_getElem? (i := 512) (by decide +kernel), List.mem_of_getElem? (i := 513) (by decide +kernel)⟩
theorem lw_p30 : lw_okq (⟨"SearchGridsModel", "missed", "([II)J"⟩, 21) := ⟨⟨by decide +kernel, by decide +kernel⟩, List.mem_of_getElem? (i := 372) (by decide +kernel), List.mem_of_getElem? (i := 517) (by decide +kernel), List.mem_of_getElem? (i := 518) (by decide +kernel)⟩
theorem lw_p31 : lw_okq (⟨"SearchGridsModel", "given", "([II)I"⟩, 21) := ⟨⟨by decide +kernel, by decide +kernel⟩, List.mem_of_getElem? (i := 372) (by decide +kernel), List.mem_of_getElem? (i := 521) (by decide +kernel), List.mem_of_getElem? (i := 522) (by decide +kernel)⟩
def lw_privs_2 : List (MethodName × Nat) := [(⟨"SearchGrids", "isOutdone", "(IIIJJ)Z"⟩, 12), (⟨"SearchGrids$LookLog", "add", "(IIIJ)I"⟩, 6), (⟨"SearchGrids$Cell", "remains", "([I)J"⟩, 9), (⟨"SearchGrids", "allRemains", "()J"⟩, 12), (⟨"SearchGrids", "standingOf", "(LSearchGrids$Cell;)J"⟩, 12), (⟨"SearchGrids", "countBefore", "(I)I"⟩, 12), (⟨"SearchGridsModel", "isCell", "(I)Z"⟩, 21), (⟨"SearchGridsModel", "place", "(I)I"⟩, 21), (⟨"SearchGridsModel", "tell", "(I)I"⟩, 21), (⟨"SearchGridsModel", "move", "(II)V"⟩, 21), (⟨"SearchGridsModel", "changed", "()V"⟩, 21), (⟨"SearchGridsModel", "isLooker", "(I)Z"⟩, 21), (⟨"SearchGridsModel", "worth", "([I)J"⟩, 21), (⟨"SearchGridsModel", "weight", "(I)I"⟩, 21), (⟨"SearchGridsModel", "missed", "([II)J"⟩, 21), (⟨"SearchGridsModel", "given", "([II)I"⟩, 21)]
theorem lw_r2 : ∀ q ∈ lw_privs_2, lw_okq q := List.forall_mem_cons.mpr ⟨lw_p16, List.forall_mem_cons.mpr ⟨lw_p17, List.forall_mem_cons.mpr ⟨lw_p18, List.forall_mem_cons.mpr ⟨lw_p19, List.forall_mem_cons.mpr ⟨lw_p20, List.forall_mem_cons.mpr ⟨lw_p21, List.forall_mem_cons.mpr ⟨lw_p22, List.forall_mem_cons.mpr ⟨lw_p23, List.forall_mem_cons.mpr ⟨lw_p24, List.forall_mem_cons.mpr ⟨lw_p25, List.forall_mem_cons.mpr ⟨lw_p26, List.forall_mem_cons.mpr ⟨lw_p27, List.forall_mem_cons.mpr ⟨lw_p28, List.forall_mem_cons.mpr ⟨lw_p29, List.forall_mem_cons.mpr ⟨lw_p30, List.forall_mem_cons.mpr ⟨lw_p31, fun _ h => absurd h List.not_mem_nil⟩⟩⟩⟩⟩⟩⟩⟩⟩⟩⟩⟩⟩⟩⟩⟩
theorem lw_p32 : lw_okq (⟨"SearchGridsModel", "use", "(I)I"⟩, 21) := ⟨⟨by decide +kernel, by decide +kernel⟩, List.mem_of_getElem? (i := 372) (by decide +kernel), List.mem_of_getElem? (i := 525) (by decide +kernel), List.mem_of_getElem? (i := 526) (by decide +kernel)⟩
theorem lw_p33 : lw_okq (⟨"SearchGridsModel", "size", "()I"⟩, 21) := ⟨⟨by decide +kernel, by decide +kernel⟩, List.mem_of_getElem? (i := 372) (by decide +kernel), List.mem_of_getElem? (i := 529) (by decide +kernel), List.mem_of_getElem? (i := 530) (by decide +kernel)⟩
theorem lw_p34 : lw_okq (⟨"SearchGridsModel", "isBetter", "(IIJ)Z"⟩, 21) := ⟨⟨by decide +kernel, by decide +kernel⟩, List.mem_of_getElem? (i := 372) (by decide +kernel), List.mem_of_getElem? (i := 541) (by decide +kernel), List.mem_of_getElem? (i := 542) (by decide +kernel)⟩
theorem lw_p35 : lw_okq (⟨"SearchGridsModel", "slot", "(I)I"⟩, 21) := ⟨⟨by decide +kernel, by decide +kernel⟩, List.mem_of_getElem? (i := 372) (by decide +kernel), List.mem_of_getElem? (i := 545) (by decide +kernel), List.mem_of_getElem? (i := 546) (by decide +kernel)⟩
theorem lw_p36 : lw_okq (⟨"SearchGridsModel", "all", "()J"⟩, 21) := ⟨⟨by decide +kernel, by decide +kernel⟩, List.mem_of_getElem? (i := 372) (by decide +kernel), List.mem_of_getElem? (i := 554) (by decide +kernel), List.mem_of_getElem? (i := 555) (by decide +kernel)⟩
theorem lw_p37 : lw_okq (⟨"SearchGridsModel", "left", "()J"⟩, 21) := ⟨⟨by decide +kernel, by decide +kernel⟩, List.mem_of_getElem? (i := 372) (by decide +kernel), List.mem_of_getElem? (i := 568) (by decide +kernel), List.mem_of_getElem? (i := 569) (by decide +kernel)⟩
theorem lw_p38 : lw_okq (⟨"SearchGridsModel", "rank", "(I)J"⟩, 21) := ⟨⟨by decide +kernel, by decide +kernel⟩, List.mem_of_getElem? (i := 372) (by decide +kernel), List.mem_of_getElem? (i := 596) (by decide +kernel), List.mem_of_getElem? (i := 597) (by decide +kernel)⟩
def lw_privs_3 : List (MethodName × Nat) := [(⟨"SearchGridsModel", "use", "(I)I"⟩, 21), (⟨"SearchGridsModel", "size", "()I"⟩, 21), (⟨"SearchGridsModel", "isBetter", "(IIJ)Z"⟩, 21), (⟨"SearchGridsModel", "slot", "(I)I"⟩, 21), (⟨"SearchGridsModel", "all", "()J"⟩, 21), (⟨"SearchGridsModel", "left", "()J"⟩, 21), (⟨"SearchGridsModel", "rank", "(I)J"⟩, 21)]
theorem lw_r3 : ∀ q ∈ lw_privs_3, lw_okq q := List.forall_mem_cons.mpr ⟨lw_p32, List.forall_mem_cons.mpr ⟨lw_p33, List.forall_mem_cons.mpr ⟨lw_p34, List.forall_mem_cons.mpr ⟨lw_p35, List.forall_mem_cons.mpr ⟨lw_p36, List.forall_mem_cons.mpr ⟨lw_p37, List.forall_mem_cons.mpr ⟨lw_p38, fun _ h => absurd h List.not_mem_nil⟩⟩⟩⟩⟩⟩⟩
def lw_privs : List (MethodName × Nat) := lw_privs_1 ++ (lw_privs_2 ++ (lw_privs_3))
def lw_tbl : List Cond := k2_sels lw_privs ++ tables_1
theorem lw_privs_ok : ∀ q ∈ lw_privs, lw_okq q := by
  show ∀ q ∈ lw_privs_1 ++ (lw_privs_2 ++ (lw_privs_3)), lw_okq q
  exact List.forall_mem_append.mpr ⟨lw_r1, List.forall_mem_append.mpr ⟨lw_r2, lw_r3⟩⟩
-- ===== the tables, by wip/whole/names.py =====
def sg_tbl : List Cond := lw_tbl.filter goodWord
theorem gd {i : Nat} {w : Cond} (h : lw_tbl[i]? = some w) (hg : goodWord w = true) : w ∈ sg_tbl := List.mem_filter.mpr ⟨List.mem_of_getElem? h, hg⟩
theorem sg_good : ∀ w ∈ sg_tbl, (w.onTables && w.keeps) = true ∨ ∃ ty, w = .arrayClass ty := fun w h => good_of_word (List.mem_filter.mp h).2
theorem wd_0 : Jvm.Cond.initialized "SearchGridsLaw" ∈ sg_tbl := gd (i := 39) (by decide +kernel) rfl
theorem wd_1 : Jvm.Cond.initialized "SearchGrids" ∈ sg_tbl := gd (i := 40) (by decide +kernel) rfl
theorem wd_2 : Jvm.Cond.initialized "SearchGrids$Cell" ∈ sg_tbl := gd (i := 41) (by decide +kernel) rfl
theorem wd_3 : Jvm.Cond.initialized "SearchGrids$Looker" ∈ sg_tbl := gd (i := 42) (by decide +kernel) rfl
theorem wd_4 : Jvm.Cond.initialized "SearchGrids$LookLog" ∈ sg_tbl := gd (i := 43) (by decide +kernel) rfl
theorem wd_5 : Jvm.Cond.initialized "SearchGridsModel" ∈ sg_tbl := gd (i := 44) (by decide +kernel) rfl
theorem wd_6 : Jvm.Cond.initialized "java/lang/Math" ∈ sg_tbl := gd (i := 45) (by decide +kernel) rfl
theorem wd_7 : Jvm.Cond.classLink "SearchGridsLaw" (7 : Nat) "SearchGrids" ∈ sg_tbl := gd (i := 46) (by decide +kernel) rfl
theorem wd_8 : Jvm.Cond.instantiable "SearchGrids" (12 : Nat) ∈ sg_tbl := gd (i := 47) (by decide +kernel) rfl
theorem wd_9 : Jvm.Cond.methodLink "SearchGridsLaw" (15 : Nat) ({ cls := "SearchGrids", name := "<init>", desc := "(I)V" } : Jvm.MethodName) ∈ sg_tbl := gd (i := 48) (by decide +kernel) rfl
theorem wd_10 : Jvm.Cond.instanceMethod ({ cls := "SearchGrids", name := "<init>", desc := "(I)V" } : Jvm.MethodName) ∈ sg_tbl := gd (i := 49) (by decide +kernel) rfl
set_option maxRecDepth 100000 in
theorem wd_11 : Jvm.Cond.code ({ cls := "SearchGrids", name := "<init>", desc := "(I)V" } : Jvm.MethodName) prog_1_method_1_code (3 : Nat) (Option.none : Option Jvm.ClassFile.FieldType) ∈ sg_tbl := gd (i := 50) rfl rfl
theorem wd_12 : Jvm.Cond.methodLink "SearchGrids" (1 : Nat) ({ cls := "java/lang/Object", name := "<init>", desc := "()V" } : Jvm.MethodName) ∈ sg_tbl := gd (i := 51) (by decide +kernel) rfl
theorem wd_13 : Jvm.Cond.instanceMethod ({ cls := "java/lang/Object", name := "<init>", desc := "()V" } : Jvm.MethodName) ∈ sg_tbl := gd (i := 52) (by decide +kernel) rfl
set_option maxRecDepth 100000 in
theorem wd_14 : Jvm.Cond.code ({ cls := "java/lang/Object", name := "<init>", desc := "()V" } : Jvm.MethodName) object_method_1_code (1 : Nat) (Option.none : Option Jvm.ClassFile.FieldType) ∈ sg_tbl := gd (i := 53) rfl rfl
theorem wd_15 : Jvm.Cond.constant "SearchGrids" (9 : Nat) (65536 : Int32) ∈ sg_tbl := gd (i := 54) (by decide +kernel) rfl
theorem wd_16 : Jvm.Cond.classLink "SearchGrids" (18 : Nat) "SearchGrids$Cell" ∈ sg_tbl := gd (i := 55) (by decide +kernel) rfl
theorem wd_18 : Jvm.Cond.instantiable "SearchGrids$Cell" (9 : Nat) ∈ sg_tbl := gd (i := 57) (by decide +kernel) rfl
theorem wd_20 : Jvm.Cond.instanceMethod ({ cls := "SearchGrids$Cell", name := "<init>", desc := "()V" } : Jvm.MethodName) ∈ sg_tbl := gd (i := 59) (by decide +kernel) rfl
set_option maxRecDepth 100000 in
theorem wd_21 : Jvm.Cond.code ({ cls := "SearchGrids$Cell", name := "<init>", desc := "()V" } : Jvm.MethodName) prog_2_method_1_code (1 : Nat) (Option.none : Option Jvm.ClassFile.FieldType) ∈ sg_tbl := gd (i := 60) rfl rfl
theorem wd_22 : Jvm.Cond.methodLink "SearchGrids$Cell" (3 : Nat) ({ cls := "java/lang/Object", name := "<init>", desc := "()V" } : Jvm.MethodName) ∈ sg_tbl := gd (i := 61) (by decide +kernel) rfl
theorem wd_23 : Jvm.Cond.fieldLink "SearchGrids$Cell" (9 : Nat) "SearchGrids$Cell" "countOf" "[I" ∈ sg_tbl := gd (i := 62) (by decide +kernel) rfl
theorem wd_25 : Jvm.Cond.fieldLink "SearchGrids$Cell" (15 : Nat) "SearchGrids$Cell" "planned" "[I" ∈ sg_tbl := gd (i := 64) (by decide +kernel) rfl
theorem wd_27 : Jvm.Cond.fieldLink "SearchGrids$Cell" (18 : Nat) "SearchGrids$Cell" "looked" "[I" ∈ sg_tbl := gd (i := 66) (by decide +kernel) rfl
theorem wd_29 : Jvm.Cond.fieldLink "SearchGrids$Cell" (21 : Nat) "SearchGrids$Cell" "trial" "[I" ∈ sg_tbl := gd (i := 68) (by decide +kernel) rfl
theorem wd_31 : Jvm.Cond.fieldLink "SearchGrids$Cell" (24 : Nat) "SearchGrids$Cell" "gains" "[J" ∈ sg_tbl := gd (i := 70) (by decide +kernel) rfl
theorem wd_33 : Jvm.Cond.fieldLink "SearchGrids$Cell" (28 : Nat) "SearchGrids$Cell" "number" "I" ∈ sg_tbl := gd (i := 72) (by decide +kernel) rfl
theorem wd_35 : Jvm.Cond.fieldLink "SearchGrids$Cell" (32 : Nat) "SearchGrids$Cell" "squares" "I" ∈ sg_tbl := gd (i := 74) (by decide +kernel) rfl
theorem wd_37 : Jvm.Cond.fieldLink "SearchGrids$Cell" (35 : Nat) "SearchGrids$Cell" "scale" "I" ∈ sg_tbl := gd (i := 76) (by decide +kernel) rfl
theorem wd_40 : Jvm.Cond.laysFinal "SearchGrids$Cell" "SearchGrids$Cell" "countOf" "[I" ∈ sg_tbl := gd (i := 79) (by decide +kernel) rfl
theorem wd_42 : Jvm.Cond.laysFinal "SearchGrids$Cell" "SearchGrids$Cell" "planned" "[I" ∈ sg_tbl := gd (i := 81) (by decide +kernel) rfl
theorem wd_44 : Jvm.Cond.laysFinal "SearchGrids$Cell" "SearchGrids$Cell" "looked" "[I" ∈ sg_tbl := gd (i := 83) (by decide +kernel) rfl
theorem wd_46 : Jvm.Cond.laysFinal "SearchGrids$Cell" "SearchGrids$Cell" "trial" "[I" ∈ sg_tbl := gd (i := 85) (by decide +kernel) rfl
theorem wd_48 : Jvm.Cond.laysFinal "SearchGrids$Cell" "SearchGrids$Cell" "gains" "[J" ∈ sg_tbl := gd (i := 87) (by decide +kernel) rfl
theorem wd_50 : Jvm.Cond.lays "SearchGrids$Cell" "SearchGrids$Cell" "number" "I" ∈ sg_tbl := gd (i := 89) (by decide +kernel) rfl
theorem wd_52 : Jvm.Cond.lays "SearchGrids$Cell" "SearchGrids$Cell" "squares" "I" ∈ sg_tbl := gd (i := 91) (by decide +kernel) rfl
theorem wd_54 : Jvm.Cond.lays "SearchGrids$Cell" "SearchGrids$Cell" "scale" "I" ∈ sg_tbl := gd (i := 93) (by decide +kernel) rfl
theorem wd_56 : Jvm.Cond.lays "SearchGrids$Cell" "SearchGrids$Cell" "standing" "J" ∈ sg_tbl := gd (i := 95) (by decide +kernel) rfl
theorem wd_59 : Jvm.Cond.arrayClass Jvm.ClassFile.FieldType.int ∈ sg_tbl := gd (i := 98) (by decide +kernel) rfl
theorem wd_60 : Jvm.Cond.arrayClass Jvm.ClassFile.FieldType.long ∈ sg_tbl := gd (i := 99) (by decide +kernel) rfl
theorem wd_61 : Jvm.Cond.classLink "SearchGrids" (25 : Nat) "SearchGrids$Looker" ∈ sg_tbl := gd (i := 100) (by decide +kernel) rfl
theorem wd_63 : Jvm.Cond.instantiable "SearchGrids$Looker" (5 : Nat) ∈ sg_tbl := gd (i := 102) (by decide +kernel) rfl
theorem wd_65 : Jvm.Cond.instanceMethod ({ cls := "SearchGrids$Looker", name := "<init>", desc := "()V" } : Jvm.MethodName) ∈ sg_tbl := gd (i := 104) (by decide +kernel) rfl
set_option maxRecDepth 100000 in
theorem wd_66 : Jvm.Cond.code ({ cls := "SearchGrids$Looker", name := "<init>", desc := "()V" } : Jvm.MethodName) prog_4_method_1_code (1 : Nat) (Option.none : Option Jvm.ClassFile.FieldType) ∈ sg_tbl := gd (i := 105) rfl rfl
theorem wd_67 : Jvm.Cond.methodLink "SearchGrids$Looker" (3 : Nat) ({ cls := "java/lang/Object", name := "<init>", desc := "()V" } : Jvm.MethodName) ∈ sg_tbl := gd (i := 106) (by decide +kernel) rfl
theorem wd_68 : Jvm.Cond.fieldLink "SearchGrids$Looker" (9 : Nat) "SearchGrids$Looker" "useless" "[Z" ∈ sg_tbl := gd (i := 107) (by decide +kernel) rfl
theorem wd_69 : Jvm.Cond.fieldLink "SearchGrids$Looker" (15 : Nat) "SearchGrids$Looker" "hours" "I" ∈ sg_tbl := gd (i := 108) (by decide +kernel) rfl
theorem wd_70 : Jvm.Cond.fieldLink "SearchGrids$Looker" (19 : Nat) "SearchGrids$Looker" "use" "I" ∈ sg_tbl := gd (i := 109) (by decide +kernel) rfl
theorem wd_74 : Jvm.Cond.laysFinal "SearchGrids$Looker" "SearchGrids$Looker" "useless" "[Z" ∈ sg_tbl := gd (i := 113) (by decide +kernel) rfl
theorem wd_76 : Jvm.Cond.lays "SearchGrids$Looker" "SearchGrids$Looker" "hours" "I" ∈ sg_tbl := gd (i := 115) (by decide +kernel) rfl
theorem wd_78 : Jvm.Cond.lays "SearchGrids$Looker" "SearchGrids$Looker" "use" "I" ∈ sg_tbl := gd (i := 117) (by decide +kernel) rfl
theorem wd_80 : Jvm.Cond.lays "SearchGrids$Looker" "SearchGrids$Looker" "given" "I" ∈ sg_tbl := gd (i := 119) (by decide +kernel) rfl
theorem wd_82 : Jvm.Cond.lays "SearchGrids$Looker" "SearchGrids$Looker" "trial" "I" ∈ sg_tbl := gd (i := 121) (by decide +kernel) rfl
theorem wd_85 : Jvm.Cond.arrayClass Jvm.ClassFile.FieldType.boolean ∈ sg_tbl := gd (i := 124) (by decide +kernel) rfl
theorem wd_86 : Jvm.Cond.classLink "SearchGrids" (35 : Nat) "SearchGrids$LookLog" ∈ sg_tbl := gd (i := 125) (by decide +kernel) rfl
theorem wd_87 : Jvm.Cond.instantiable "SearchGrids$LookLog" (6 : Nat) ∈ sg_tbl := gd (i := 126) (by decide +kernel) rfl
theorem wd_89 : Jvm.Cond.instanceMethod ({ cls := "SearchGrids$LookLog", name := "<init>", desc := "()V" } : Jvm.MethodName) ∈ sg_tbl := gd (i := 128) (by decide +kernel) rfl
set_option maxRecDepth 100000 in
theorem wd_90 : Jvm.Cond.code ({ cls := "SearchGrids$LookLog", name := "<init>", desc := "()V" } : Jvm.MethodName) prog_3_method_1_code (1 : Nat) (Option.none : Option Jvm.ClassFile.FieldType) ∈ sg_tbl := gd (i := 129) rfl rfl
theorem wd_91 : Jvm.Cond.methodLink "SearchGrids$LookLog" (3 : Nat) ({ cls := "java/lang/Object", name := "<init>", desc := "()V" } : Jvm.MethodName) ∈ sg_tbl := gd (i := 130) (by decide +kernel) rfl
theorem wd_92 : Jvm.Cond.fieldLink "SearchGrids$LookLog" (9 : Nat) "SearchGrids$LookLog" "lookers" "[I" ∈ sg_tbl := gd (i := 131) (by decide +kernel) rfl
theorem wd_94 : Jvm.Cond.fieldLink "SearchGrids$LookLog" (15 : Nat) "SearchGrids$LookLog" "cells" "[I" ∈ sg_tbl := gd (i := 133) (by decide +kernel) rfl
theorem wd_96 : Jvm.Cond.fieldLink "SearchGrids$LookLog" (18 : Nat) "SearchGrids$LookLog" "hours" "[I" ∈ sg_tbl := gd (i := 135) (by decide +kernel) rfl
theorem wd_98 : Jvm.Cond.fieldLink "SearchGrids$LookLog" (21 : Nat) "SearchGrids$LookLog" "tolds" "[J" ∈ sg_tbl := gd (i := 137) (by decide +kernel) rfl
theorem wd_99 : Jvm.Cond.fieldLink "SearchGrids$LookLog" (25 : Nat) "SearchGrids$LookLog" "byTold" "[I" ∈ sg_tbl := gd (i := 138) (by decide +kernel) rfl
theorem wd_101 : Jvm.Cond.fieldLink "SearchGrids$LookLog" (28 : Nat) "SearchGrids$LookLog" "size" "I" ∈ sg_tbl := gd (i := 140) (by decide +kernel) rfl
theorem wd_103 : Jvm.Cond.laysFinal "SearchGrids$LookLog" "SearchGrids$LookLog" "lookers" "[I" ∈ sg_tbl := gd (i := 142) (by decide +kernel) rfl
theorem wd_105 : Jvm.Cond.laysFinal "SearchGrids$LookLog" "SearchGrids$LookLog" "cells" "[I" ∈ sg_tbl := gd (i := 144) (by decide +kernel) rfl
theorem wd_107 : Jvm.Cond.laysFinal "SearchGrids$LookLog" "SearchGrids$LookLog" "hours" "[I" ∈ sg_tbl := gd (i := 146) (by decide +kernel) rfl
theorem wd_109 : Jvm.Cond.laysFinal "SearchGrids$LookLog" "SearchGrids$LookLog" "tolds" "[J" ∈ sg_tbl := gd (i := 148) (by decide +kernel) rfl
theorem wd_111 : Jvm.Cond.laysFinal "SearchGrids$LookLog" "SearchGrids$LookLog" "byTold" "[I" ∈ sg_tbl := gd (i := 150) (by decide +kernel) rfl
theorem wd_113 : Jvm.Cond.lays "SearchGrids$LookLog" "SearchGrids$LookLog" "size" "I" ∈ sg_tbl := gd (i := 152) (by decide +kernel) rfl
theorem wd_116 : Jvm.Cond.fieldLink "SearchGrids" (10 : Nat) "SearchGrids" "cells" "I" ∈ sg_tbl := gd (i := 155) (by decide +kernel) rfl
theorem wd_117 : Jvm.Cond.fieldLink "SearchGrids" (20 : Nat) "SearchGrids" "toldCells" "[LSearchGrids$Cell;" ∈ sg_tbl := gd (i := 156) (by decide +kernel) rfl
theorem wd_118 : Jvm.Cond.fieldLink "SearchGrids" (109 : Nat) "SearchGrids" "toldCount" "I" ∈ sg_tbl := gd (i := 157) (by decide +kernel) rfl
theorem wd_119 : Jvm.Cond.fieldLink "SearchGrids" (27 : Nat) "SearchGrids" "lookers" "[LSearchGrids$Looker;" ∈ sg_tbl := gd (i := 158) (by decide +kernel) rfl
theorem wd_120 : Jvm.Cond.fieldLink "SearchGrids" (77 : Nat) "SearchGrids" "lookerCount" "I" ∈ sg_tbl := gd (i := 159) (by decide +kernel) rfl
theorem wd_121 : Jvm.Cond.fieldLink "SearchGrids" (14 : Nat) "SearchGrids" "rates" "[I" ∈ sg_tbl := gd (i := 160) (by decide +kernel) rfl
theorem wd_122 : Jvm.Cond.fieldLink "SearchGrids" (32 : Nat) "SearchGrids" "thingCount" "I" ∈ sg_tbl := gd (i := 161) (by decide +kernel) rfl
theorem wd_123 : Jvm.Cond.fieldLink "SearchGrids" (38 : Nat) "SearchGrids" "looks" "LSearchGrids$LookLog;" ∈ sg_tbl := gd (i := 162) (by decide +kernel) rfl
theorem wd_124 : Jvm.Cond.fieldLink "SearchGrids" (42 : Nat) "SearchGrids" "seenCell" "I" ∈ sg_tbl := gd (i := 163) (by decide +kernel) rfl
theorem wd_125 : Jvm.Cond.fieldLink "SearchGrids" (169 : Nat) "SearchGrids" "stopAbove" "J" ∈ sg_tbl := gd (i := 164) (by decide +kernel) rfl
theorem wd_126 : Jvm.Cond.fieldLink "SearchGrids" (173 : Nat) "SearchGrids" "stopBelow" "J" ∈ sg_tbl := gd (i := 165) (by decide +kernel) rfl
theorem wd_127 : Jvm.Cond.fieldLink "SearchGrids" (45 : Nat) "SearchGrids" "gone" "[Z" ∈ sg_tbl := gd (i := 166) (by decide +kernel) rfl
theorem wd_128 : Jvm.Cond.laysFinal "SearchGrids" "SearchGrids" "cells" "I" ∈ sg_tbl := gd (i := 167) (by decide +kernel) rfl
theorem wd_130 : Jvm.Cond.laysFinal "SearchGrids" "SearchGrids" "toldCells" "[LSearchGrids$Cell;" ∈ sg_tbl := gd (i := 169) (by decide +kernel) rfl
theorem wd_132 : Jvm.Cond.lays "SearchGrids" "SearchGrids" "toldCount" "I" ∈ sg_tbl := gd (i := 171) (by decide +kernel) rfl
theorem wd_134 : Jvm.Cond.laysFinal "SearchGrids" "SearchGrids" "lookers" "[LSearchGrids$Looker;" ∈ sg_tbl := gd (i := 173) (by decide +kernel) rfl
theorem wd_136 : Jvm.Cond.lays "SearchGrids" "SearchGrids" "lookerCount" "I" ∈ sg_tbl := gd (i := 175) (by decide +kernel) rfl
theorem wd_138 : Jvm.Cond.laysFinal "SearchGrids" "SearchGrids" "rates" "[I" ∈ sg_tbl := gd (i := 177) (by decide +kernel) rfl
theorem wd_140 : Jvm.Cond.lays "SearchGrids" "SearchGrids" "thingCount" "I" ∈ sg_tbl := gd (i := 179) (by decide +kernel) rfl
theorem wd_142 : Jvm.Cond.laysFinal "SearchGrids" "SearchGrids" "looks" "LSearchGrids$LookLog;" ∈ sg_tbl := gd (i := 181) (by decide +kernel) rfl
theorem wd_144 : Jvm.Cond.lays "SearchGrids" "SearchGrids" "seenCell" "I" ∈ sg_tbl := gd (i := 183) (by decide +kernel) rfl
theorem wd_146 : Jvm.Cond.lays "SearchGrids" "SearchGrids" "stopAbove" "J" ∈ sg_tbl := gd (i := 185) (by decide +kernel) rfl
theorem wd_148 : Jvm.Cond.lays "SearchGrids" "SearchGrids" "stopBelow" "J" ∈ sg_tbl := gd (i := 187) (by decide +kernel) rfl
theorem wd_150 : Jvm.Cond.laysFinal "SearchGrids" "SearchGrids" "gone" "[Z" ∈ sg_tbl := gd (i := 189) (by decide +kernel) rfl
theorem wd_153 : Jvm.Cond.methodLink "SearchGridsLaw" (23 : Nat) ({ cls := "SearchGrids", name := "counts", desc := "(IJ)Z" } : Jvm.MethodName) ∈ sg_tbl := gd (i := 192) (by decide +kernel) rfl
theorem wd_154 : Jvm.Cond.instanceMethod ({ cls := "SearchGrids", name := "counts", desc := "(IJ)Z" } : Jvm.MethodName) ∈ sg_tbl := gd (i := 193) (by decide +kernel) rfl
theorem wd_155 : Jvm.Cond.selects "SearchGrids" ({ cls := "SearchGrids", name := "counts", desc := "(IJ)Z" } : Jvm.MethodName) ({ cls := "SearchGrids", name := "counts", desc := "(IJ)Z" } : Jvm.MethodName) ∈ sg_tbl := gd (i := 194) (by decide +kernel) rfl
set_option maxRecDepth 100000 in
theorem wd_156 : Jvm.Cond.code ({ cls := "SearchGrids", name := "counts", desc := "(IJ)Z" } : Jvm.MethodName) prog_1_method_2_code (4 : Nat) (Option.some Jvm.ClassFile.FieldType.boolean) ∈ sg_tbl := gd (i := 195) rfl rfl
theorem wd_157 : Jvm.Cond.methodLink "SearchGrids" (49 : Nat) ({ cls := "SearchGrids", name := "countsOf", desc := "(IIJ)Z" } : Jvm.MethodName) ∈ sg_tbl := gd (i := 196) (by decide +kernel) rfl
theorem wd_158 : Jvm.Cond.instanceMethod ({ cls := "SearchGrids", name := "countsOf", desc := "(IIJ)Z" } : Jvm.MethodName) ∈ sg_tbl := gd (i := 197) (by decide +kernel) rfl
theorem wd_159 : Jvm.Cond.selects "SearchGrids" ({ cls := "SearchGrids", name := "countsOf", desc := "(IIJ)Z" } : Jvm.MethodName) ({ cls := "SearchGrids", name := "countsOf", desc := "(IIJ)Z" } : Jvm.MethodName) ∈ sg_tbl := gd (i := 198) (by decide +kernel) rfl
set_option maxRecDepth 100000 in
theorem wd_160 : Jvm.Cond.code ({ cls := "SearchGrids", name := "countsOf", desc := "(IIJ)Z" } : Jvm.MethodName) prog_1_method_17_code (6 : Nat) (Option.some Jvm.ClassFile.FieldType.boolean) ∈ sg_tbl := gd (i := 199) rfl rfl
theorem wd_161 : Jvm.Cond.methodLink "SearchGrids" (85 : Nat) ({ cls := "SearchGrids", name := "isWithin", desc := "(JJJ)Z" } : Jvm.MethodName) ∈ sg_tbl := gd (i := 200) (by decide +kernel) rfl
theorem wd_162 : Jvm.Cond.static ({ cls := "SearchGrids", name := "isWithin", desc := "(JJJ)Z" } : Jvm.MethodName) ∈ sg_tbl := gd (i := 201) (by decide +kernel) rfl
set_option maxRecDepth 100000 in
theorem wd_163 : Jvm.Cond.code ({ cls := "SearchGrids", name := "isWithin", desc := "(JJJ)Z" } : Jvm.MethodName) prog_1_method_27_code (6 : Nat) (Option.some Jvm.ClassFile.FieldType.boolean) ∈ sg_tbl := gd (i := 202) rfl rfl
theorem wd_164 : Jvm.Cond.methodLink "SearchGrids" (53 : Nat) ({ cls := "SearchGrids", name := "isCell", desc := "(I)Z" } : Jvm.MethodName) ∈ sg_tbl := gd (i := 203) (by decide +kernel) rfl
theorem wd_166 : Jvm.Cond.instanceMethod ({ cls := "SearchGrids", name := "isCell", desc := "(I)Z" } : Jvm.MethodName) ∈ sg_tbl := gd (i := 205) (by decide +kernel) rfl
set_option maxRecDepth 100000 in
theorem wd_167 : Jvm.Cond.code ({ cls := "SearchGrids", name := "isCell", desc := "(I)Z" } : Jvm.MethodName) prog_1_method_24_code (2 : Nat) (Option.some Jvm.ClassFile.FieldType.boolean) ∈ sg_tbl := gd (i := 206) rfl rfl
theorem wd_168 : Jvm.Cond.constantLong "SearchGrids" (83 : Nat) (1000 : Int64) ∈ sg_tbl := gd (i := 207) (by decide +kernel) rfl
theorem wd_169 : Jvm.Cond.methodLink "SearchGrids" (166 : Nat) ({ cls := "SearchGrids", name := "tellOf", desc := "(I)I" } : Jvm.MethodName) ∈ sg_tbl := gd (i := 208) (by decide +kernel) rfl
theorem wd_171 : Jvm.Cond.instanceMethod ({ cls := "SearchGrids", name := "tellOf", desc := "(I)I" } : Jvm.MethodName) ∈ sg_tbl := gd (i := 210) (by decide +kernel) rfl
set_option maxRecDepth 100000 in
theorem wd_172 : Jvm.Cond.code ({ cls := "SearchGrids", name := "tellOf", desc := "(I)I" } : Jvm.MethodName) prog_1_method_29_code (4 : Nat) (Option.some Jvm.ClassFile.FieldType.int) ∈ sg_tbl := gd (i := 211) rfl rfl
theorem wd_173 : Jvm.Cond.methodLink "SearchGrids" (66 : Nat) ({ cls := "SearchGrids", name := "placeOf", desc := "(I)I" } : Jvm.MethodName) ∈ sg_tbl := gd (i := 212) (by decide +kernel) rfl
theorem wd_175 : Jvm.Cond.instanceMethod ({ cls := "SearchGrids", name := "placeOf", desc := "(I)I" } : Jvm.MethodName) ∈ sg_tbl := gd (i := 214) (by decide +kernel) rfl
set_option maxRecDepth 100000 in
theorem wd_176 : Jvm.Cond.code ({ cls := "SearchGrids", name := "placeOf", desc := "(I)I" } : Jvm.MethodName) prog_1_method_28_code (3 : Nat) (Option.some Jvm.ClassFile.FieldType.int) ∈ sg_tbl := gd (i := 215) rfl rfl
theorem wd_177 : Jvm.Cond.methodLink "SearchGrids" (95 : Nat) ({ cls := "SearchGrids", name := "dropPlan", desc := "()V" } : Jvm.MethodName) ∈ sg_tbl := gd (i := 216) (by decide +kernel) rfl
theorem wd_179 : Jvm.Cond.instanceMethod ({ cls := "SearchGrids", name := "dropPlan", desc := "()V" } : Jvm.MethodName) ∈ sg_tbl := gd (i := 218) (by decide +kernel) rfl
set_option maxRecDepth 100000 in
theorem wd_180 : Jvm.Cond.code ({ cls := "SearchGrids", name := "dropPlan", desc := "()V" } : Jvm.MethodName) prog_1_method_32_code (3 : Nat) (Option.none : Option Jvm.ClassFile.FieldType) ∈ sg_tbl := gd (i := 219) rfl rfl
theorem wd_181 : Jvm.Cond.methodLink "SearchGridsLaw" (28 : Nat) ({ cls := "SearchGrids", name := "odds", desc := "(II)J" } : Jvm.MethodName) ∈ sg_tbl := gd (i := 220) (by decide +kernel) rfl
theorem wd_182 : Jvm.Cond.instanceMethod ({ cls := "SearchGrids", name := "odds", desc := "(II)J" } : Jvm.MethodName) ∈ sg_tbl := gd (i := 221) (by decide +kernel) rfl
theorem wd_183 : Jvm.Cond.selects "SearchGrids" ({ cls := "SearchGrids", name := "odds", desc := "(II)J" } : Jvm.MethodName) ({ cls := "SearchGrids", name := "odds", desc := "(II)J" } : Jvm.MethodName) ∈ sg_tbl := gd (i := 222) (by decide +kernel) rfl
set_option maxRecDepth 100000 in
theorem wd_184 : Jvm.Cond.code ({ cls := "SearchGrids", name := "odds", desc := "(II)J" } : Jvm.MethodName) prog_1_method_3_code (4 : Nat) (Option.some Jvm.ClassFile.FieldType.long) ∈ sg_tbl := gd (i := 223) rfl rfl
theorem wd_185 : Jvm.Cond.methodLink "SearchGrids" (57 : Nat) ({ cls := "SearchGrids", name := "isZeroOrOne", desc := "(I)Z" } : Jvm.MethodName) ∈ sg_tbl := gd (i := 224) (by decide +kernel) rfl
theorem wd_186 : Jvm.Cond.static ({ cls := "SearchGrids", name := "isZeroOrOne", desc := "(I)Z" } : Jvm.MethodName) ∈ sg_tbl := gd (i := 225) (by decide +kernel) rfl
set_option maxRecDepth 100000 in
theorem wd_187 : Jvm.Cond.code ({ cls := "SearchGrids", name := "isZeroOrOne", desc := "(I)Z" } : Jvm.MethodName) prog_1_method_26_code (1 : Nat) (Option.some Jvm.ClassFile.FieldType.boolean) ∈ sg_tbl := gd (i := 226) rfl rfl
theorem wd_188 : Jvm.Cond.constantLong "SearchGrids" (60 : Nat) (-1 : Int64) ∈ sg_tbl := gd (i := 227) (by decide +kernel) rfl
theorem wd_189 : Jvm.Cond.methodLink "SearchGrids" (62 : Nat) ({ cls := "SearchGrids", name := "fraction", desc := "(JJI)J" } : Jvm.MethodName) ∈ sg_tbl := gd (i := 228) (by decide +kernel) rfl
theorem wd_190 : Jvm.Cond.static ({ cls := "SearchGrids", name := "fraction", desc := "(JJI)J" } : Jvm.MethodName) ∈ sg_tbl := gd (i := 229) (by decide +kernel) rfl
set_option maxRecDepth 100000 in
theorem wd_191 : Jvm.Cond.code ({ cls := "SearchGrids", name := "fraction", desc := "(JJI)J" } : Jvm.MethodName) prog_1_method_42_code (7 : Nat) (Option.some Jvm.ClassFile.FieldType.long) ∈ sg_tbl := gd (i := 230) rfl rfl
theorem wd_192 : Jvm.Cond.methodLink "SearchGrids" (228 : Nat) ({ cls := "SearchGrids", name := "commonDivisor", desc := "(JJ)J" } : Jvm.MethodName) ∈ sg_tbl := gd (i := 231) (by decide +kernel) rfl
theorem wd_193 : Jvm.Cond.static ({ cls := "SearchGrids", name := "commonDivisor", desc := "(JJ)J" } : Jvm.MethodName) ∈ sg_tbl := gd (i := 232) (by decide +kernel) rfl
set_option maxRecDepth 100000 in
theorem wd_194 : Jvm.Cond.code ({ cls := "SearchGrids", name := "commonDivisor", desc := "(JJ)J" } : Jvm.MethodName) prog_1_method_43_code (11 : Nat) (Option.some Jvm.ClassFile.FieldType.long) ∈ sg_tbl := gd (i := 233) rfl rfl
theorem wd_195 : Jvm.Cond.methodLink "SearchGrids" (73 : Nat) ({ cls := "SearchGrids", name := "allCounts", desc := "()J" } : Jvm.MethodName) ∈ sg_tbl := gd (i := 234) (by decide +kernel) rfl
theorem wd_197 : Jvm.Cond.instanceMethod ({ cls := "SearchGrids", name := "allCounts", desc := "()J" } : Jvm.MethodName) ∈ sg_tbl := gd (i := 236) (by decide +kernel) rfl
set_option maxRecDepth 100000 in
theorem wd_198 : Jvm.Cond.code ({ cls := "SearchGrids", name := "allCounts", desc := "()J" } : Jvm.MethodName) prog_1_method_30_code (4 : Nat) (Option.some Jvm.ClassFile.FieldType.long) ∈ sg_tbl := gd (i := 237) rfl rfl
theorem wd_199 : Jvm.Cond.methodLink "SearchGridsLaw" (33 : Nat) ({ cls := "SearchGrids", name := "looker", desc := "(JJI)I" } : Jvm.MethodName) ∈ sg_tbl := gd (i := 238) (by decide +kernel) rfl
theorem wd_200 : Jvm.Cond.instanceMethod ({ cls := "SearchGrids", name := "looker", desc := "(JJI)I" } : Jvm.MethodName) ∈ sg_tbl := gd (i := 239) (by decide +kernel) rfl
theorem wd_201 : Jvm.Cond.selects "SearchGrids" ({ cls := "SearchGrids", name := "looker", desc := "(JJI)I" } : Jvm.MethodName) ({ cls := "SearchGrids", name := "looker", desc := "(JJI)I" } : Jvm.MethodName) ∈ sg_tbl := gd (i := 240) (by decide +kernel) rfl
set_option maxRecDepth 100000 in
theorem wd_202 : Jvm.Cond.code ({ cls := "SearchGrids", name := "looker", desc := "(JJI)I" } : Jvm.MethodName) prog_1_method_4_code (7 : Nat) (Option.some Jvm.ClassFile.FieldType.int) ∈ sg_tbl := gd (i := 241) rfl rfl
theorem wd_203 : Jvm.Cond.constantLong "SearchGrids" (89 : Nat) (24 : Int64) ∈ sg_tbl := gd (i := 242) (by decide +kernel) rfl
theorem wd_206 : Jvm.Cond.instanceMethod ({ cls := "SearchGrids$Looker", name := "begin", desc := "(I)V" } : Jvm.MethodName) ∈ sg_tbl := gd (i := 245) (by decide +kernel) rfl
set_option maxRecDepth 100000 in
theorem wd_207 : Jvm.Cond.code ({ cls := "SearchGrids$Looker", name := "begin", desc := "(I)V" } : Jvm.MethodName) prog_4_method_2_code (2 : Nat) (Option.none : Option Jvm.ClassFile.FieldType) ∈ sg_tbl := gd (i := 246) rfl rfl
theorem wd_208 : Jvm.Cond.methodLink "SearchGridsLaw" (38 : Nat) ({ cls := "SearchGrids", name := "bar", desc := "(II)Z" } : Jvm.MethodName) ∈ sg_tbl := gd (i := 247) (by decide +kernel) rfl
theorem wd_209 : Jvm.Cond.instanceMethod ({ cls := "SearchGrids", name := "bar", desc := "(II)Z" } : Jvm.MethodName) ∈ sg_tbl := gd (i := 248) (by decide +kernel) rfl
theorem wd_210 : Jvm.Cond.selects "SearchGrids" ({ cls := "SearchGrids", name := "bar", desc := "(II)Z" } : Jvm.MethodName) ({ cls := "SearchGrids", name := "bar", desc := "(II)Z" } : Jvm.MethodName) ∈ sg_tbl := gd (i := 249) (by decide +kernel) rfl
set_option maxRecDepth 100000 in
theorem wd_211 : Jvm.Cond.code ({ cls := "SearchGrids", name := "bar", desc := "(II)Z" } : Jvm.MethodName) prog_1_method_5_code (3 : Nat) (Option.some Jvm.ClassFile.FieldType.boolean) ∈ sg_tbl := gd (i := 250) rfl rfl
theorem wd_212 : Jvm.Cond.methodLink "SearchGrids" (98 : Nat) ({ cls := "SearchGrids", name := "isLooker", desc := "(I)Z" } : Jvm.MethodName) ∈ sg_tbl := gd (i := 251) (by decide +kernel) rfl
theorem wd_214 : Jvm.Cond.instanceMethod ({ cls := "SearchGrids", name := "isLooker", desc := "(I)Z" } : Jvm.MethodName) ∈ sg_tbl := gd (i := 253) (by decide +kernel) rfl
set_option maxRecDepth 100000 in
theorem wd_215 : Jvm.Cond.code ({ cls := "SearchGrids", name := "isLooker", desc := "(I)Z" } : Jvm.MethodName) prog_1_method_25_code (2 : Nat) (Option.some Jvm.ClassFile.FieldType.boolean) ∈ sg_tbl := gd (i := 254) rfl rfl
theorem wd_216 : Jvm.Cond.constantLong "SearchGrids" (101 : Nat) (23 : Int64) ∈ sg_tbl := gd (i := 255) (by decide +kernel) rfl
theorem wd_219 : Jvm.Cond.instanceMethod ({ cls := "SearchGrids$Looker", name := "takeAway", desc := "(II)V" } : Jvm.MethodName) ∈ sg_tbl := gd (i := 258) (by decide +kernel) rfl
set_option maxRecDepth 100000 in
theorem wd_220 : Jvm.Cond.code ({ cls := "SearchGrids$Looker", name := "takeAway", desc := "(II)V" } : Jvm.MethodName) prog_4_method_3_code (4 : Nat) (Option.none : Option Jvm.ClassFile.FieldType) ∈ sg_tbl := gd (i := 259) rfl rfl
theorem wd_221 : Jvm.Cond.methodLink "SearchGrids$Looker" (22 : Nat) ({ cls := "java/lang/Math", name := "max", desc := "(II)I" } : Jvm.MethodName) ∈ sg_tbl := gd (i := 260) (by decide +kernel) rfl
theorem wd_222 : Jvm.Cond.static ({ cls := "java/lang/Math", name := "max", desc := "(II)I" } : Jvm.MethodName) ∈ sg_tbl := gd (i := 261) (by decide +kernel) rfl
set_option maxRecDepth 100000 in
theorem wd_223 : Jvm.Cond.code ({ cls := "java/lang/Math", name := "max", desc := "(II)I" } : Jvm.MethodName) prog_7_method_65_code (2 : Nat) (Option.some Jvm.ClassFile.FieldType.int) ∈ sg_tbl := gd (i := 262) rfl rfl
theorem wd_224 : Jvm.Cond.methodLink "SearchGridsLaw" (43 : Nat) ({ cls := "SearchGrids", name := "share", desc := "(I)I" } : Jvm.MethodName) ∈ sg_tbl := gd (i := 263) (by decide +kernel) rfl
theorem wd_225 : Jvm.Cond.instanceMethod ({ cls := "SearchGrids", name := "share", desc := "(I)I" } : Jvm.MethodName) ∈ sg_tbl := gd (i := 264) (by decide +kernel) rfl
theorem wd_226 : Jvm.Cond.selects "SearchGrids" ({ cls := "SearchGrids", name := "share", desc := "(I)I" } : Jvm.MethodName) ({ cls := "SearchGrids", name := "share", desc := "(I)I" } : Jvm.MethodName) ∈ sg_tbl := gd (i := 265) (by decide +kernel) rfl
set_option maxRecDepth 100000 in
theorem wd_227 : Jvm.Cond.code ({ cls := "SearchGrids", name := "share", desc := "(I)I" } : Jvm.MethodName) prog_1_method_6_code (3 : Nat) (Option.some Jvm.ClassFile.FieldType.int) ∈ sg_tbl := gd (i := 266) rfl rfl
theorem wd_228 : Jvm.Cond.constantLong "SearchGrids" (107 : Nat) (100 : Int64) ∈ sg_tbl := gd (i := 267) (by decide +kernel) rfl
theorem wd_231 : Jvm.Cond.instanceMethod ({ cls := "SearchGrids$Cell", name := "reckonGains", desc := "([I)V" } : Jvm.MethodName) ∈ sg_tbl := gd (i := 270) (by decide +kernel) rfl
set_option maxRecDepth 100000 in
theorem wd_232 : Jvm.Cond.code ({ cls := "SearchGrids$Cell", name := "reckonGains", desc := "([I)V" } : Jvm.MethodName) prog_2_method_7_code (5 : Nat) (Option.none : Option Jvm.ClassFile.FieldType) ∈ sg_tbl := gd (i := 271) rfl rfl
theorem wd_233 : Jvm.Cond.methodLink "SearchGrids$Cell" (58 : Nat) ({ cls := "SearchGrids$Cell", name := "finds", desc := "([I[I)J" } : Jvm.MethodName) ∈ sg_tbl := gd (i := 272) (by decide +kernel) rfl
theorem wd_235 : Jvm.Cond.instanceMethod ({ cls := "SearchGrids$Cell", name := "finds", desc := "([I[I)J" } : Jvm.MethodName) ∈ sg_tbl := gd (i := 274) (by decide +kernel) rfl
set_option maxRecDepth 100000 in
theorem wd_236 : Jvm.Cond.code ({ cls := "SearchGrids$Cell", name := "finds", desc := "([I[I)J" } : Jvm.MethodName) prog_2_method_5_code (3 : Nat) (Option.some Jvm.ClassFile.FieldType.long) ∈ sg_tbl := gd (i := 275) rfl rfl
theorem wd_237 : Jvm.Cond.methodLink "SearchGrids$Cell" (48 : Nat) ({ cls := "SearchGrids$Cell", name := "weight", desc := "()J" } : Jvm.MethodName) ∈ sg_tbl := gd (i := 276) (by decide +kernel) rfl
theorem wd_239 : Jvm.Cond.instanceMethod ({ cls := "SearchGrids$Cell", name := "weight", desc := "()J" } : Jvm.MethodName) ∈ sg_tbl := gd (i := 278) (by decide +kernel) rfl
set_option maxRecDepth 100000 in
theorem wd_240 : Jvm.Cond.code ({ cls := "SearchGrids$Cell", name := "weight", desc := "()J" } : Jvm.MethodName) prog_2_method_2_code (4 : Nat) (Option.some Jvm.ClassFile.FieldType.long) ∈ sg_tbl := gd (i := 279) rfl rfl
theorem wd_241 : Jvm.Cond.constantLong "SearchGrids$Cell" (52 : Nat) (268738560000 : Int64) ∈ sg_tbl := gd (i := 280) (by decide +kernel) rfl
theorem wd_242 : Jvm.Cond.methodLink "SearchGrids$Cell" (54 : Nat) ({ cls := "SearchGrids$Cell", name := "missed", desc := "([I[I)J" } : Jvm.MethodName) ∈ sg_tbl := gd (i := 281) (by decide +kernel) rfl
theorem wd_244 : Jvm.Cond.instanceMethod ({ cls := "SearchGrids$Cell", name := "missed", desc := "([I[I)J" } : Jvm.MethodName) ∈ sg_tbl := gd (i := 283) (by decide +kernel) rfl
set_option maxRecDepth 100000 in
theorem wd_245 : Jvm.Cond.code ({ cls := "SearchGrids$Cell", name := "missed", desc := "([I[I)J" } : Jvm.MethodName) prog_2_method_4_code (6 : Nat) (Option.some Jvm.ClassFile.FieldType.long) ∈ sg_tbl := gd (i := 284) rfl rfl
theorem wd_246 : Jvm.Cond.methodLink "SearchGrids$Cell" (44 : Nat) ({ cls := "SearchGrids$Cell", name := "missedBy", desc := "(II)J" } : Jvm.MethodName) ∈ sg_tbl := gd (i := 285) (by decide +kernel) rfl
theorem wd_248 : Jvm.Cond.instanceMethod ({ cls := "SearchGrids$Cell", name := "missedBy", desc := "(II)J" } : Jvm.MethodName) ∈ sg_tbl := gd (i := 287) (by decide +kernel) rfl
set_option maxRecDepth 100000 in
theorem wd_249 : Jvm.Cond.code ({ cls := "SearchGrids$Cell", name := "missedBy", desc := "(II)J" } : Jvm.MethodName) prog_2_method_3_code (4 : Nat) (Option.some Jvm.ClassFile.FieldType.long) ∈ sg_tbl := gd (i := 288) rfl rfl
theorem wd_250 : Jvm.Cond.methodLink "SearchGrids$Cell" (38 : Nat) ({ cls := "java/lang/Math", name := "min", desc := "(II)I" } : Jvm.MethodName) ∈ sg_tbl := gd (i := 289) (by decide +kernel) rfl
theorem wd_251 : Jvm.Cond.static ({ cls := "java/lang/Math", name := "min", desc := "(II)I" } : Jvm.MethodName) ∈ sg_tbl := gd (i := 290) (by decide +kernel) rfl
set_option maxRecDepth 100000 in
theorem wd_252 : Jvm.Cond.code ({ cls := "java/lang/Math", name := "min", desc := "(II)I" } : Jvm.MethodName) prog_7_method_69_code (2 : Nat) (Option.some Jvm.ClassFile.FieldType.int) ∈ sg_tbl := gd (i := 291) rfl rfl
theorem wd_253 : Jvm.Cond.methodLink "SearchGrids" (116 : Nat) ({ cls := "SearchGrids", name := "giveBestHour", desc := "()Z" } : Jvm.MethodName) ∈ sg_tbl := gd (i := 292) (by decide +kernel) rfl
theorem wd_255 : Jvm.Cond.instanceMethod ({ cls := "SearchGrids", name := "giveBestHour", desc := "()Z" } : Jvm.MethodName) ∈ sg_tbl := gd (i := 294) (by decide +kernel) rfl
set_option maxRecDepth 100000 in
theorem wd_256 : Jvm.Cond.code ({ cls := "SearchGrids", name := "giveBestHour", desc := "()Z" } : Jvm.MethodName) prog_1_method_33_code (8 : Nat) (Option.some Jvm.ClassFile.FieldType.boolean) ∈ sg_tbl := gd (i := 295) rfl rfl
theorem wd_257 : Jvm.Cond.methodLink "SearchGridsLaw" (48 : Nat) ({ cls := "SearchGrids", name := "of", desc := "(II)I" } : Jvm.MethodName) ∈ sg_tbl := gd (i := 296) (by decide +kernel) rfl
theorem wd_258 : Jvm.Cond.instanceMethod ({ cls := "SearchGrids", name := "of", desc := "(II)I" } : Jvm.MethodName) ∈ sg_tbl := gd (i := 297) (by decide +kernel) rfl
theorem wd_259 : Jvm.Cond.selects "SearchGrids" ({ cls := "SearchGrids", name := "of", desc := "(II)I" } : Jvm.MethodName) ({ cls := "SearchGrids", name := "of", desc := "(II)I" } : Jvm.MethodName) ∈ sg_tbl := gd (i := 298) (by decide +kernel) rfl
set_option maxRecDepth 100000 in
theorem wd_260 : Jvm.Cond.code ({ cls := "SearchGrids", name := "of", desc := "(II)I" } : Jvm.MethodName) prog_1_method_7_code (4 : Nat) (Option.some Jvm.ClassFile.FieldType.int) ∈ sg_tbl := gd (i := 299) rfl rfl
theorem wd_261 : Jvm.Cond.methodLink "SearchGridsLaw" (53 : Nat) ({ cls := "SearchGrids", name := "tried", desc := "()Z" } : Jvm.MethodName) ∈ sg_tbl := gd (i := 300) (by decide +kernel) rfl
theorem wd_262 : Jvm.Cond.instanceMethod ({ cls := "SearchGrids", name := "tried", desc := "()Z" } : Jvm.MethodName) ∈ sg_tbl := gd (i := 301) (by decide +kernel) rfl
theorem wd_263 : Jvm.Cond.selects "SearchGrids" ({ cls := "SearchGrids", name := "tried", desc := "()Z" } : Jvm.MethodName) ({ cls := "SearchGrids", name := "tried", desc := "()Z" } : Jvm.MethodName) ∈ sg_tbl := gd (i := 302) (by decide +kernel) rfl
set_option maxRecDepth 100000 in
theorem wd_264 : Jvm.Cond.code ({ cls := "SearchGrids", name := "tried", desc := "()Z" } : Jvm.MethodName) prog_1_method_8_code (2 : Nat) (Option.some Jvm.ClassFile.FieldType.boolean) ∈ sg_tbl := gd (i := 303) rfl rfl
theorem wd_265 : Jvm.Cond.methodLink "SearchGrids" (123 : Nat) ({ cls := "SearchGrids", name := "plannedHours", desc := "()I" } : Jvm.MethodName) ∈ sg_tbl := gd (i := 304) (by decide +kernel) rfl
theorem wd_267 : Jvm.Cond.instanceMethod ({ cls := "SearchGrids", name := "plannedHours", desc := "()I" } : Jvm.MethodName) ∈ sg_tbl := gd (i := 306) (by decide +kernel) rfl
set_option maxRecDepth 100000 in
theorem wd_268 : Jvm.Cond.code ({ cls := "SearchGrids", name := "plannedHours", desc := "()I" } : Jvm.MethodName) prog_1_method_34_code (3 : Nat) (Option.some Jvm.ClassFile.FieldType.int) ∈ sg_tbl := gd (i := 307) rfl rfl
theorem wd_269 : Jvm.Cond.methodLink "SearchGrids" (127 : Nat) ({ cls := "SearchGrids", name := "plannedFinds", desc := "()J" } : Jvm.MethodName) ∈ sg_tbl := gd (i := 308) (by decide +kernel) rfl
theorem wd_271 : Jvm.Cond.instanceMethod ({ cls := "SearchGrids", name := "plannedFinds", desc := "()J" } : Jvm.MethodName) ∈ sg_tbl := gd (i := 310) (by decide +kernel) rfl
set_option maxRecDepth 100000 in
theorem wd_272 : Jvm.Cond.code ({ cls := "SearchGrids", name := "plannedFinds", desc := "()J" } : Jvm.MethodName) prog_1_method_35_code (4 : Nat) (Option.some Jvm.ClassFile.FieldType.long) ∈ sg_tbl := gd (i := 311) rfl rfl
theorem wd_274 : Jvm.Cond.methodLink "SearchGrids" (130 : Nat) ({ cls := "SearchGrids", name := "isOutdone", desc := "(IIIJJ)Z" } : Jvm.MethodName) ∈ sg_tbl := gd (i := 313) (by decide +kernel) rfl
theorem wd_276 : Jvm.Cond.instanceMethod ({ cls := "SearchGrids", name := "isOutdone", desc := "(IIIJJ)Z" } : Jvm.MethodName) ∈ sg_tbl := gd (i := 315) (by decide +kernel) rfl
set_option maxRecDepth 100000 in
theorem wd_277 : Jvm.Cond.code ({ cls := "SearchGrids", name := "isOutdone", desc := "(IIIJJ)Z" } : Jvm.MethodName) prog_1_method_36_code (13 : Nat) (Option.some Jvm.ClassFile.FieldType.boolean) ∈ sg_tbl := gd (i := 316) rfl rfl
theorem wd_278 : Jvm.Cond.methodLink "SearchGrids" (223 : Nat) ({ cls := "java/lang/Math", name := "min", desc := "(II)I" } : Jvm.MethodName) ∈ sg_tbl := gd (i := 317) (by decide +kernel) rfl
theorem wd_279 : Jvm.Cond.methodLink "SearchGridsLaw" (58 : Nat) ({ cls := "SearchGrids", name := "look", desc := "(IIJJ)I" } : Jvm.MethodName) ∈ sg_tbl := gd (i := 318) (by decide +kernel) rfl
theorem wd_280 : Jvm.Cond.instanceMethod ({ cls := "SearchGrids", name := "look", desc := "(IIJJ)I" } : Jvm.MethodName) ∈ sg_tbl := gd (i := 319) (by decide +kernel) rfl
theorem wd_281 : Jvm.Cond.selects "SearchGrids" ({ cls := "SearchGrids", name := "look", desc := "(IIJJ)I" } : Jvm.MethodName) ({ cls := "SearchGrids", name := "look", desc := "(IIJJ)I" } : Jvm.MethodName) ∈ sg_tbl := gd (i := 320) (by decide +kernel) rfl
set_option maxRecDepth 100000 in
theorem wd_282 : Jvm.Cond.code ({ cls := "SearchGrids", name := "look", desc := "(IIJJ)I" } : Jvm.MethodName) prog_1_method_9_code (9 : Nat) (Option.some Jvm.ClassFile.FieldType.int) ∈ sg_tbl := gd (i := 321) rfl rfl
theorem wd_285 : Jvm.Cond.instanceMethod ({ cls := "SearchGrids$LookLog", name := "add", desc := "(IIIJ)I" } : Jvm.MethodName) ∈ sg_tbl := gd (i := 324) (by decide +kernel) rfl
set_option maxRecDepth 100000 in
theorem wd_286 : Jvm.Cond.code ({ cls := "SearchGrids$LookLog", name := "add", desc := "(IIIJ)I" } : Jvm.MethodName) prog_3_method_2_code (8 : Nat) (Option.some Jvm.ClassFile.FieldType.int) ∈ sg_tbl := gd (i := 325) rfl rfl
theorem wd_287 : Jvm.Cond.methodLink "SearchGridsLaw" (63 : Nat) ({ cls := "SearchGrids", name := "after", desc := "(II)J" } : Jvm.MethodName) ∈ sg_tbl := gd (i := 326) (by decide +kernel) rfl
theorem wd_288 : Jvm.Cond.instanceMethod ({ cls := "SearchGrids", name := "after", desc := "(II)J" } : Jvm.MethodName) ∈ sg_tbl := gd (i := 327) (by decide +kernel) rfl
theorem wd_289 : Jvm.Cond.selects "SearchGrids" ({ cls := "SearchGrids", name := "after", desc := "(II)J" } : Jvm.MethodName) ({ cls := "SearchGrids", name := "after", desc := "(II)J" } : Jvm.MethodName) ∈ sg_tbl := gd (i := 328) (by decide +kernel) rfl
set_option maxRecDepth 100000 in
theorem wd_290 : Jvm.Cond.code ({ cls := "SearchGrids", name := "after", desc := "(II)J" } : Jvm.MethodName) prog_1_method_10_code (4 : Nat) (Option.some Jvm.ClassFile.FieldType.long) ∈ sg_tbl := gd (i := 329) rfl rfl
theorem wd_293 : Jvm.Cond.instanceMethod ({ cls := "SearchGrids$Cell", name := "remains", desc := "([I)J" } : Jvm.MethodName) ∈ sg_tbl := gd (i := 332) (by decide +kernel) rfl
set_option maxRecDepth 100000 in
theorem wd_294 : Jvm.Cond.code ({ cls := "SearchGrids$Cell", name := "remains", desc := "([I)J" } : Jvm.MethodName) prog_2_method_6_code (2 : Nat) (Option.some Jvm.ClassFile.FieldType.long) ∈ sg_tbl := gd (i := 333) rfl rfl
theorem wd_295 : Jvm.Cond.methodLink "SearchGrids" (145 : Nat) ({ cls := "SearchGrids", name := "allRemains", desc := "()J" } : Jvm.MethodName) ∈ sg_tbl := gd (i := 334) (by decide +kernel) rfl
theorem wd_297 : Jvm.Cond.instanceMethod ({ cls := "SearchGrids", name := "allRemains", desc := "()J" } : Jvm.MethodName) ∈ sg_tbl := gd (i := 336) (by decide +kernel) rfl
set_option maxRecDepth 100000 in
theorem wd_298 : Jvm.Cond.code ({ cls := "SearchGrids", name := "allRemains", desc := "()J" } : Jvm.MethodName) prog_1_method_31_code (4 : Nat) (Option.some Jvm.ClassFile.FieldType.long) ∈ sg_tbl := gd (i := 337) rfl rfl
theorem wd_299 : Jvm.Cond.methodLink "SearchGridsLaw" (67 : Nat) ({ cls := "SearchGrids", name := "sums", desc := "()Z" } : Jvm.MethodName) ∈ sg_tbl := gd (i := 338) (by decide +kernel) rfl
theorem wd_300 : Jvm.Cond.instanceMethod ({ cls := "SearchGrids", name := "sums", desc := "()Z" } : Jvm.MethodName) ∈ sg_tbl := gd (i := 339) (by decide +kernel) rfl
theorem wd_301 : Jvm.Cond.selects "SearchGrids" ({ cls := "SearchGrids", name := "sums", desc := "()Z" } : Jvm.MethodName) ({ cls := "SearchGrids", name := "sums", desc := "()Z" } : Jvm.MethodName) ∈ sg_tbl := gd (i := 340) (by decide +kernel) rfl
set_option maxRecDepth 100000 in
theorem wd_302 : Jvm.Cond.code ({ cls := "SearchGrids", name := "sums", desc := "()Z" } : Jvm.MethodName) prog_1_method_11_code (1 : Nat) (Option.some Jvm.ClassFile.FieldType.boolean) ∈ sg_tbl := gd (i := 341) rfl rfl
theorem wd_303 : Jvm.Cond.methodLink "SearchGridsLaw" (71 : Nat) ({ cls := "SearchGrids", name := "found", desc := "(I)J" } : Jvm.MethodName) ∈ sg_tbl := gd (i := 342) (by decide +kernel) rfl
theorem wd_304 : Jvm.Cond.instanceMethod ({ cls := "SearchGrids", name := "found", desc := "(I)J" } : Jvm.MethodName) ∈ sg_tbl := gd (i := 343) (by decide +kernel) rfl
theorem wd_305 : Jvm.Cond.selects "SearchGrids" ({ cls := "SearchGrids", name := "found", desc := "(I)J" } : Jvm.MethodName) ({ cls := "SearchGrids", name := "found", desc := "(I)J" } : Jvm.MethodName) ∈ sg_tbl := gd (i := 344) (by decide +kernel) rfl
set_option maxRecDepth 100000 in
theorem wd_306 : Jvm.Cond.code ({ cls := "SearchGrids", name := "found", desc := "(I)J" } : Jvm.MethodName) prog_1_method_12_code (5 : Nat) (Option.some Jvm.ClassFile.FieldType.long) ∈ sg_tbl := gd (i := 345) rfl rfl
theorem wd_308 : Jvm.Cond.constantLong "SearchGrids" (151 : Nat) (268738560000 : Int64) ∈ sg_tbl := gd (i := 347) (by decide +kernel) rfl
theorem wd_309 : Jvm.Cond.methodLink "SearchGridsLaw" (76 : Nat) ({ cls := "SearchGrids", name := "line", desc := "(III)I" } : Jvm.MethodName) ∈ sg_tbl := gd (i := 348) (by decide +kernel) rfl
theorem wd_310 : Jvm.Cond.instanceMethod ({ cls := "SearchGrids", name := "line", desc := "(III)I" } : Jvm.MethodName) ∈ sg_tbl := gd (i := 349) (by decide +kernel) rfl
theorem wd_311 : Jvm.Cond.selects "SearchGrids" ({ cls := "SearchGrids", name := "line", desc := "(III)I" } : Jvm.MethodName) ({ cls := "SearchGrids", name := "line", desc := "(III)I" } : Jvm.MethodName) ∈ sg_tbl := gd (i := 350) (by decide +kernel) rfl
set_option maxRecDepth 100000 in
theorem wd_312 : Jvm.Cond.code ({ cls := "SearchGrids", name := "line", desc := "(III)I" } : Jvm.MethodName) prog_1_method_13_code (6 : Nat) (Option.some Jvm.ClassFile.FieldType.int) ∈ sg_tbl := gd (i := 351) rfl rfl
theorem wd_313 : Jvm.Cond.methodLink "SearchGrids" (156 : Nat) ({ cls := "SearchGrids", name := "rowWidth", desc := "(I)I" } : Jvm.MethodName) ∈ sg_tbl := gd (i := 352) (by decide +kernel) rfl
theorem wd_314 : Jvm.Cond.static ({ cls := "SearchGrids", name := "rowWidth", desc := "(I)I" } : Jvm.MethodName) ∈ sg_tbl := gd (i := 353) (by decide +kernel) rfl
set_option maxRecDepth 100000 in
theorem wd_315 : Jvm.Cond.code ({ cls := "SearchGrids", name := "rowWidth", desc := "(I)I" } : Jvm.MethodName) prog_1_method_39_code (3 : Nat) (Option.some Jvm.ClassFile.FieldType.int) ∈ sg_tbl := gd (i := 354) rfl rfl
theorem wd_316 : Jvm.Cond.methodLink "SearchGrids" (159 : Nat) ({ cls := "SearchGrids", name := "placeInRow", desc := "(II)I" } : Jvm.MethodName) ∈ sg_tbl := gd (i := 355) (by decide +kernel) rfl
theorem wd_317 : Jvm.Cond.static ({ cls := "SearchGrids", name := "placeInRow", desc := "(II)I" } : Jvm.MethodName) ∈ sg_tbl := gd (i := 356) (by decide +kernel) rfl
set_option maxRecDepth 100000 in
theorem wd_318 : Jvm.Cond.code ({ cls := "SearchGrids", name := "placeInRow", desc := "(II)I" } : Jvm.MethodName) prog_1_method_41_code (3 : Nat) (Option.some Jvm.ClassFile.FieldType.int) ∈ sg_tbl := gd (i := 357) rfl rfl
theorem wd_319 : Jvm.Cond.methodLink "SearchGrids" (163 : Nat) ({ cls := "SearchGrids", name := "rowOf", desc := "(II)I" } : Jvm.MethodName) ∈ sg_tbl := gd (i := 358) (by decide +kernel) rfl
theorem wd_320 : Jvm.Cond.static ({ cls := "SearchGrids", name := "rowOf", desc := "(II)I" } : Jvm.MethodName) ∈ sg_tbl := gd (i := 359) (by decide +kernel) rfl
set_option maxRecDepth 100000 in
theorem wd_321 : Jvm.Cond.code ({ cls := "SearchGrids", name := "rowOf", desc := "(II)I" } : Jvm.MethodName) prog_1_method_40_code (2 : Nat) (Option.some Jvm.ClassFile.FieldType.int) ∈ sg_tbl := gd (i := 360) rfl rfl
theorem wd_322 : Jvm.Cond.methodLink "SearchGridsLaw" (81 : Nat) ({ cls := "SearchGrids", name := "covers", desc := "(I)Z" } : Jvm.MethodName) ∈ sg_tbl := gd (i := 361) (by decide +kernel) rfl
theorem wd_323 : Jvm.Cond.instanceMethod ({ cls := "SearchGrids", name := "covers", desc := "(I)Z" } : Jvm.MethodName) ∈ sg_tbl := gd (i := 362) (by decide +kernel) rfl
theorem wd_324 : Jvm.Cond.selects "SearchGrids" ({ cls := "SearchGrids", name := "covers", desc := "(I)Z" } : Jvm.MethodName) ({ cls := "SearchGrids", name := "covers", desc := "(I)Z" } : Jvm.MethodName) ∈ sg_tbl := gd (i := 363) (by decide +kernel) rfl
set_option maxRecDepth 100000 in
theorem wd_325 : Jvm.Cond.code ({ cls := "SearchGrids", name := "covers", desc := "(I)Z" } : Jvm.MethodName) prog_1_method_14_code (7 : Nat) (Option.some Jvm.ClassFile.FieldType.boolean) ∈ sg_tbl := gd (i := 364) rfl rfl
theorem wd_326 : Jvm.Cond.methodLink "SearchGridsLaw" (86 : Nat) ({ cls := "SearchGrids", name := "rest", desc := "(III)Z" } : Jvm.MethodName) ∈ sg_tbl := gd (i := 365) (by decide +kernel) rfl
theorem wd_327 : Jvm.Cond.instanceMethod ({ cls := "SearchGrids", name := "rest", desc := "(III)Z" } : Jvm.MethodName) ∈ sg_tbl := gd (i := 366) (by decide +kernel) rfl
theorem wd_328 : Jvm.Cond.selects "SearchGrids" ({ cls := "SearchGrids", name := "rest", desc := "(III)Z" } : Jvm.MethodName) ({ cls := "SearchGrids", name := "rest", desc := "(III)Z" } : Jvm.MethodName) ∈ sg_tbl := gd (i := 367) (by decide +kernel) rfl
set_option maxRecDepth 100000 in
theorem wd_329 : Jvm.Cond.code ({ cls := "SearchGrids", name := "rest", desc := "(III)Z" } : Jvm.MethodName) prog_1_method_15_code (4 : Nat) (Option.some Jvm.ClassFile.FieldType.boolean) ∈ sg_tbl := gd (i := 368) rfl rfl
theorem wd_330 : Jvm.Cond.methodLink "SearchGridsLaw" (91 : Nat) ({ cls := "SearchGrids", name := "thing", desc := "()I" } : Jvm.MethodName) ∈ sg_tbl := gd (i := 369) (by decide +kernel) rfl
theorem wd_331 : Jvm.Cond.instanceMethod ({ cls := "SearchGrids", name := "thing", desc := "()I" } : Jvm.MethodName) ∈ sg_tbl := gd (i := 370) (by decide +kernel) rfl
theorem wd_332 : Jvm.Cond.selects "SearchGrids" ({ cls := "SearchGrids", name := "thing", desc := "()I" } : Jvm.MethodName) ({ cls := "SearchGrids", name := "thing", desc := "()I" } : Jvm.MethodName) ∈ sg_tbl := gd (i := 371) (by decide +kernel) rfl
set_option maxRecDepth 100000 in
theorem wd_333 : Jvm.Cond.code ({ cls := "SearchGrids", name := "thing", desc := "()I" } : Jvm.MethodName) prog_1_method_16_code (2 : Nat) (Option.some Jvm.ClassFile.FieldType.int) ∈ sg_tbl := gd (i := 372) rfl rfl
theorem wd_334 : Jvm.Cond.methodLink "SearchGridsLaw" (96 : Nat) ({ cls := "SearchGrids", name := "countsOf", desc := "(IIJ)Z" } : Jvm.MethodName) ∈ sg_tbl := gd (i := 373) (by decide +kernel) rfl
theorem wd_335 : Jvm.Cond.methodLink "SearchGridsLaw" (101 : Nat) ({ cls := "SearchGrids", name := "stop", desc := "(JJ)Z" } : Jvm.MethodName) ∈ sg_tbl := gd (i := 374) (by decide +kernel) rfl
theorem wd_336 : Jvm.Cond.instanceMethod ({ cls := "SearchGrids", name := "stop", desc := "(JJ)Z" } : Jvm.MethodName) ∈ sg_tbl := gd (i := 375) (by decide +kernel) rfl
theorem wd_337 : Jvm.Cond.selects "SearchGrids" ({ cls := "SearchGrids", name := "stop", desc := "(JJ)Z" } : Jvm.MethodName) ({ cls := "SearchGrids", name := "stop", desc := "(JJ)Z" } : Jvm.MethodName) ∈ sg_tbl := gd (i := 376) (by decide +kernel) rfl
set_option maxRecDepth 100000 in
theorem wd_338 : Jvm.Cond.code ({ cls := "SearchGrids", name := "stop", desc := "(JJ)Z" } : Jvm.MethodName) prog_1_method_18_code (5 : Nat) (Option.some Jvm.ClassFile.FieldType.boolean) ∈ sg_tbl := gd (i := 377) rfl rfl
theorem wd_339 : Jvm.Cond.methodLink "SearchGridsLaw" (106 : Nat) ({ cls := "SearchGrids", name := "stops", desc := "()I" } : Jvm.MethodName) ∈ sg_tbl := gd (i := 378) (by decide +kernel) rfl
theorem wd_340 : Jvm.Cond.instanceMethod ({ cls := "SearchGrids", name := "stops", desc := "()I" } : Jvm.MethodName) ∈ sg_tbl := gd (i := 379) (by decide +kernel) rfl
theorem wd_341 : Jvm.Cond.selects "SearchGrids" ({ cls := "SearchGrids", name := "stops", desc := "()I" } : Jvm.MethodName) ({ cls := "SearchGrids", name := "stops", desc := "()I" } : Jvm.MethodName) ∈ sg_tbl := gd (i := 380) (by decide +kernel) rfl
set_option maxRecDepth 100000 in
theorem wd_342 : Jvm.Cond.code ({ cls := "SearchGrids", name := "stops", desc := "()I" } : Jvm.MethodName) prog_1_method_19_code (3 : Nat) (Option.some Jvm.ClassFile.FieldType.int) ∈ sg_tbl := gd (i := 381) rfl rfl
theorem wd_343 : Jvm.Cond.methodLink "SearchGridsLaw" (110 : Nat) ({ cls := "SearchGrids", name := "order", desc := "(I)I" } : Jvm.MethodName) ∈ sg_tbl := gd (i := 382) (by decide +kernel) rfl
theorem wd_344 : Jvm.Cond.instanceMethod ({ cls := "SearchGrids", name := "order", desc := "(I)I" } : Jvm.MethodName) ∈ sg_tbl := gd (i := 383) (by decide +kernel) rfl
theorem wd_345 : Jvm.Cond.selects "SearchGrids" ({ cls := "SearchGrids", name := "order", desc := "(I)I" } : Jvm.MethodName) ({ cls := "SearchGrids", name := "order", desc := "(I)I" } : Jvm.MethodName) ∈ sg_tbl := gd (i := 384) (by decide +kernel) rfl
set_option maxRecDepth 100000 in
theorem wd_346 : Jvm.Cond.code ({ cls := "SearchGrids", name := "order", desc := "(I)I" } : Jvm.MethodName) prog_1_method_20_code (3 : Nat) (Option.some Jvm.ClassFile.FieldType.int) ∈ sg_tbl := gd (i := 385) rfl rfl
theorem wd_347 : Jvm.Cond.methodLink "SearchGrids" (176 : Nat) ({ cls := "SearchGrids", name := "standingOf", desc := "(LSearchGrids$Cell;)J" } : Jvm.MethodName) ∈ sg_tbl := gd (i := 386) (by decide +kernel) rfl
theorem wd_349 : Jvm.Cond.instanceMethod ({ cls := "SearchGrids", name := "standingOf", desc := "(LSearchGrids$Cell;)J" } : Jvm.MethodName) ∈ sg_tbl := gd (i := 388) (by decide +kernel) rfl
set_option maxRecDepth 100000 in
theorem wd_350 : Jvm.Cond.code ({ cls := "SearchGrids", name := "standingOf", desc := "(LSearchGrids$Cell;)J" } : Jvm.MethodName) prog_1_method_37_code (2 : Nat) (Option.some Jvm.ClassFile.FieldType.long) ∈ sg_tbl := gd (i := 389) rfl rfl
theorem wd_351 : Jvm.Cond.methodLink "SearchGrids" (183 : Nat) ({ cls := "SearchGrids", name := "countBefore", desc := "(I)I" } : Jvm.MethodName) ∈ sg_tbl := gd (i := 390) (by decide +kernel) rfl
theorem wd_353 : Jvm.Cond.instanceMethod ({ cls := "SearchGrids", name := "countBefore", desc := "(I)I" } : Jvm.MethodName) ∈ sg_tbl := gd (i := 392) (by decide +kernel) rfl
set_option maxRecDepth 100000 in
theorem wd_354 : Jvm.Cond.code ({ cls := "SearchGrids", name := "countBefore", desc := "(I)I" } : Jvm.MethodName) prog_1_method_38_code (6 : Nat) (Option.some Jvm.ClassFile.FieldType.int) ∈ sg_tbl := gd (i := 393) rfl rfl
theorem wd_355 : Jvm.Cond.methodLink "SearchGridsLaw" (114 : Nat) ({ cls := "SearchGrids", name := "seen", desc := "(II)Z" } : Jvm.MethodName) ∈ sg_tbl := gd (i := 394) (by decide +kernel) rfl
theorem wd_356 : Jvm.Cond.instanceMethod ({ cls := "SearchGrids", name := "seen", desc := "(II)Z" } : Jvm.MethodName) ∈ sg_tbl := gd (i := 395) (by decide +kernel) rfl
theorem wd_357 : Jvm.Cond.selects "SearchGrids" ({ cls := "SearchGrids", name := "seen", desc := "(II)Z" } : Jvm.MethodName) ({ cls := "SearchGrids", name := "seen", desc := "(II)Z" } : Jvm.MethodName) ∈ sg_tbl := gd (i := 396) (by decide +kernel) rfl
set_option maxRecDepth 100000 in
theorem wd_358 : Jvm.Cond.code ({ cls := "SearchGrids", name := "seen", desc := "(II)Z" } : Jvm.MethodName) prog_1_method_21_code (4 : Nat) (Option.some Jvm.ClassFile.FieldType.boolean) ∈ sg_tbl := gd (i := 397) rfl rfl
theorem wd_359 : Jvm.Cond.methodLink "SearchGridsLaw" (118 : Nat) ({ cls := "SearchGrids", name := "log", desc := "(II)I" } : Jvm.MethodName) ∈ sg_tbl := gd (i := 398) (by decide +kernel) rfl
theorem wd_360 : Jvm.Cond.instanceMethod ({ cls := "SearchGrids", name := "log", desc := "(II)I" } : Jvm.MethodName) ∈ sg_tbl := gd (i := 399) (by decide +kernel) rfl
theorem wd_361 : Jvm.Cond.selects "SearchGrids" ({ cls := "SearchGrids", name := "log", desc := "(II)I" } : Jvm.MethodName) ({ cls := "SearchGrids", name := "log", desc := "(II)I" } : Jvm.MethodName) ∈ sg_tbl := gd (i := 400) (by decide +kernel) rfl
set_option maxRecDepth 100000 in
theorem wd_362 : Jvm.Cond.code ({ cls := "SearchGrids", name := "log", desc := "(II)I" } : Jvm.MethodName) prog_1_method_22_code (4 : Nat) (Option.some Jvm.ClassFile.FieldType.int) ∈ sg_tbl := gd (i := 401) rfl rfl
theorem wd_363 : Jvm.Cond.methodLink "SearchGridsLaw" (122 : Nat) ({ cls := "SearchGrids", name := "area", desc := "(IJ)Z" } : Jvm.MethodName) ∈ sg_tbl := gd (i := 402) (by decide +kernel) rfl
theorem wd_364 : Jvm.Cond.instanceMethod ({ cls := "SearchGrids", name := "area", desc := "(IJ)Z" } : Jvm.MethodName) ∈ sg_tbl := gd (i := 403) (by decide +kernel) rfl
theorem wd_365 : Jvm.Cond.selects "SearchGrids" ({ cls := "SearchGrids", name := "area", desc := "(IJ)Z" } : Jvm.MethodName) ({ cls := "SearchGrids", name := "area", desc := "(IJ)Z" } : Jvm.MethodName) ∈ sg_tbl := gd (i := 404) (by decide +kernel) rfl
set_option maxRecDepth 100000 in
theorem wd_366 : Jvm.Cond.code ({ cls := "SearchGrids", name := "area", desc := "(IJ)Z" } : Jvm.MethodName) prog_1_method_23_code (6 : Nat) (Option.some Jvm.ClassFile.FieldType.boolean) ∈ sg_tbl := gd (i := 405) rfl rfl
theorem wd_367 : Jvm.Cond.constantLong "SearchGrids" (199 : Nat) (720 : Int64) ∈ sg_tbl := gd (i := 406) (by decide +kernel) rfl
theorem wd_368 : Jvm.Cond.methodLink "SearchGridsLaw" (9 : Nat) ({ cls := "SearchGridsLaw", name := "cell", desc := "([II)I" } : Jvm.MethodName) ∈ sg_tbl := gd (i := 407) (by decide +kernel) rfl
theorem wd_369 : Jvm.Cond.static ({ cls := "SearchGridsLaw", name := "cell", desc := "([II)I" } : Jvm.MethodName) ∈ sg_tbl := gd (i := 408) (by decide +kernel) rfl
set_option maxRecDepth 100000 in
theorem wd_370 : Jvm.Cond.code ({ cls := "SearchGridsLaw", name := "cell", desc := "([II)I" } : Jvm.MethodName) method_2_code (2 : Nat) (Option.some Jvm.ClassFile.FieldType.int) ∈ sg_tbl := gd (i := 409) rfl rfl
theorem wd_371 : Jvm.Cond.classLink "SearchGridsLaw" (18 : Nat) "SearchGridsModel" ∈ sg_tbl := gd (i := 410) (by decide +kernel) rfl
theorem wd_372 : Jvm.Cond.instantiable "SearchGridsModel" (21 : Nat) ∈ sg_tbl := gd (i := 411) (by decide +kernel) rfl
theorem wd_373 : Jvm.Cond.methodLink "SearchGridsLaw" (20 : Nat) ({ cls := "SearchGridsModel", name := "<init>", desc := "(I)V" } : Jvm.MethodName) ∈ sg_tbl := gd (i := 412) (by decide +kernel) rfl
theorem wd_374 : Jvm.Cond.instanceMethod ({ cls := "SearchGridsModel", name := "<init>", desc := "(I)V" } : Jvm.MethodName) ∈ sg_tbl := gd (i := 413) (by decide +kernel) rfl
set_option maxRecDepth 100000 in
theorem wd_375 : Jvm.Cond.code ({ cls := "SearchGridsModel", name := "<init>", desc := "(I)V" } : Jvm.MethodName) prog_6_method_1_code (2 : Nat) (Option.none : Option Jvm.ClassFile.FieldType) ∈ sg_tbl := gd (i := 414) rfl rfl
theorem wd_376 : Jvm.Cond.methodLink "SearchGridsModel" (1 : Nat) ({ cls := "java/lang/Object", name := "<init>", desc := "()V" } : Jvm.MethodName) ∈ sg_tbl := gd (i := 415) (by decide +kernel) rfl
theorem wd_377 : Jvm.Cond.constant "SearchGridsModel" (58 : Nat) (65536 : Int32) ∈ sg_tbl := gd (i := 416) (by decide +kernel) rfl
theorem wd_378 : Jvm.Cond.fieldLink "SearchGridsModel" (59 : Nat) "SearchGridsModel" "cells" "I" ∈ sg_tbl := gd (i := 417) (by decide +kernel) rfl
theorem wd_379 : Jvm.Cond.fieldLink "SearchGridsModel" (65 : Nat) "SearchGridsModel" "told" "I" ∈ sg_tbl := gd (i := 418) (by decide +kernel) rfl
theorem wd_380 : Jvm.Cond.fieldLink "SearchGridsModel" (7 : Nat) "SearchGridsModel" "cell" "[I" ∈ sg_tbl := gd (i := 419) (by decide +kernel) rfl
theorem wd_381 : Jvm.Cond.fieldLink "SearchGridsModel" (13 : Nat) "SearchGridsModel" "areas" "[I" ∈ sg_tbl := gd (i := 420) (by decide +kernel) rfl
theorem wd_382 : Jvm.Cond.fieldLink "SearchGridsModel" (16 : Nat) "SearchGridsModel" "count" "[I" ∈ sg_tbl := gd (i := 421) (by decide +kernel) rfl
theorem wd_383 : Jvm.Cond.fieldLink "SearchGridsModel" (19 : Nat) "SearchGridsModel" "things" "I" ∈ sg_tbl := gd (i := 422) (by decide +kernel) rfl
theorem wd_384 : Jvm.Cond.fieldLink "SearchGridsModel" (62 : Nat) "SearchGridsModel" "lookers" "I" ∈ sg_tbl := gd (i := 423) (by decide +kernel) rfl
theorem wd_385 : Jvm.Cond.fieldLink "SearchGridsModel" (23 : Nat) "SearchGridsModel" "rate" "[I" ∈ sg_tbl := gd (i := 424) (by decide +kernel) rfl
theorem wd_386 : Jvm.Cond.fieldLink "SearchGridsModel" (26 : Nat) "SearchGridsModel" "hours" "[I" ∈ sg_tbl := gd (i := 425) (by decide +kernel) rfl
theorem wd_387 : Jvm.Cond.fieldLink "SearchGridsModel" (29 : Nat) "SearchGridsModel" "barred" "[Z" ∈ sg_tbl := gd (i := 426) (by decide +kernel) rfl
theorem wd_388 : Jvm.Cond.fieldLink "SearchGridsModel" (33 : Nat) "SearchGridsModel" "plan" "[I" ∈ sg_tbl := gd (i := 427) (by decide +kernel) rfl
theorem wd_389 : Jvm.Cond.fieldLink "SearchGridsModel" (36 : Nat) "SearchGridsModel" "trial" "[I" ∈ sg_tbl := gd (i := 428) (by decide +kernel) rfl
theorem wd_390 : Jvm.Cond.fieldLink "SearchGridsModel" (39 : Nat) "SearchGridsModel" "looked" "[I" ∈ sg_tbl := gd (i := 429) (by decide +kernel) rfl
theorem wd_391 : Jvm.Cond.fieldLink "SearchGridsModel" (92 : Nat) "SearchGridsModel" "looks" "I" ∈ sg_tbl := gd (i := 430) (by decide +kernel) rfl
theorem wd_392 : Jvm.Cond.fieldLink "SearchGridsModel" (42 : Nat) "SearchGridsModel" "lookLooker" "[I" ∈ sg_tbl := gd (i := 431) (by decide +kernel) rfl
theorem wd_393 : Jvm.Cond.fieldLink "SearchGridsModel" (45 : Nat) "SearchGridsModel" "lookCell" "[I" ∈ sg_tbl := gd (i := 432) (by decide +kernel) rfl
theorem wd_394 : Jvm.Cond.fieldLink "SearchGridsModel" (48 : Nat) "SearchGridsModel" "lookHours" "[I" ∈ sg_tbl := gd (i := 433) (by decide +kernel) rfl
theorem wd_395 : Jvm.Cond.fieldLink "SearchGridsModel" (51 : Nat) "SearchGridsModel" "lookTold" "[J" ∈ sg_tbl := gd (i := 434) (by decide +kernel) rfl
theorem wd_396 : Jvm.Cond.fieldLink "SearchGridsModel" (55 : Nat) "SearchGridsModel" "seenAt" "I" ∈ sg_tbl := gd (i := 435) (by decide +kernel) rfl
theorem wd_397 : Jvm.Cond.fieldLink "SearchGridsModel" (106 : Nat) "SearchGridsModel" "above" "J" ∈ sg_tbl := gd (i := 436) (by decide +kernel) rfl
theorem wd_398 : Jvm.Cond.fieldLink "SearchGridsModel" (110 : Nat) "SearchGridsModel" "below" "J" ∈ sg_tbl := gd (i := 437) (by decide +kernel) rfl
theorem wd_399 : Jvm.Cond.laysFinal "SearchGridsModel" "SearchGridsModel" "cells" "I" ∈ sg_tbl := gd (i := 438) (by decide +kernel) rfl
theorem wd_401 : Jvm.Cond.lays "SearchGridsModel" "SearchGridsModel" "told" "I" ∈ sg_tbl := gd (i := 440) (by decide +kernel) rfl
theorem wd_403 : Jvm.Cond.laysFinal "SearchGridsModel" "SearchGridsModel" "cell" "[I" ∈ sg_tbl := gd (i := 442) (by decide +kernel) rfl
theorem wd_405 : Jvm.Cond.laysFinal "SearchGridsModel" "SearchGridsModel" "areas" "[I" ∈ sg_tbl := gd (i := 444) (by decide +kernel) rfl
theorem wd_407 : Jvm.Cond.laysFinal "SearchGridsModel" "SearchGridsModel" "count" "[I" ∈ sg_tbl := gd (i := 446) (by decide +kernel) rfl
theorem wd_409 : Jvm.Cond.lays "SearchGridsModel" "SearchGridsModel" "things" "I" ∈ sg_tbl := gd (i := 448) (by decide +kernel) rfl
theorem wd_411 : Jvm.Cond.lays "SearchGridsModel" "SearchGridsModel" "lookers" "I" ∈ sg_tbl := gd (i := 450) (by decide +kernel) rfl
theorem wd_413 : Jvm.Cond.laysFinal "SearchGridsModel" "SearchGridsModel" "rate" "[I" ∈ sg_tbl := gd (i := 452) (by decide +kernel) rfl
theorem wd_415 : Jvm.Cond.laysFinal "SearchGridsModel" "SearchGridsModel" "hours" "[I" ∈ sg_tbl := gd (i := 454) (by decide +kernel) rfl
theorem wd_417 : Jvm.Cond.laysFinal "SearchGridsModel" "SearchGridsModel" "barred" "[Z" ∈ sg_tbl := gd (i := 456) (by decide +kernel) rfl
theorem wd_419 : Jvm.Cond.laysFinal "SearchGridsModel" "SearchGridsModel" "plan" "[I" ∈ sg_tbl := gd (i := 458) (by decide +kernel) rfl
theorem wd_421 : Jvm.Cond.laysFinal "SearchGridsModel" "SearchGridsModel" "trial" "[I" ∈ sg_tbl := gd (i := 460) (by decide +kernel) rfl
theorem wd_423 : Jvm.Cond.laysFinal "SearchGridsModel" "SearchGridsModel" "looked" "[I" ∈ sg_tbl := gd (i := 462) (by decide +kernel) rfl
theorem wd_425 : Jvm.Cond.lays "SearchGridsModel" "SearchGridsModel" "looks" "I" ∈ sg_tbl := gd (i := 464) (by decide +kernel) rfl
theorem wd_427 : Jvm.Cond.laysFinal "SearchGridsModel" "SearchGridsModel" "lookLooker" "[I" ∈ sg_tbl := gd (i := 466) (by decide +kernel) rfl
theorem wd_429 : Jvm.Cond.laysFinal "SearchGridsModel" "SearchGridsModel" "lookCell" "[I" ∈ sg_tbl := gd (i := 468) (by decide +kernel) rfl
theorem wd_431 : Jvm.Cond.laysFinal "SearchGridsModel" "SearchGridsModel" "lookHours" "[I" ∈ sg_tbl := gd (i := 470) (by decide +kernel) rfl
theorem wd_433 : Jvm.Cond.laysFinal "SearchGridsModel" "SearchGridsModel" "lookTold" "[J" ∈ sg_tbl := gd (i := 472) (by decide +kernel) rfl
theorem wd_435 : Jvm.Cond.lays "SearchGridsModel" "SearchGridsModel" "seenAt" "I" ∈ sg_tbl := gd (i := 474) (by decide +kernel) rfl
theorem wd_437 : Jvm.Cond.lays "SearchGridsModel" "SearchGridsModel" "above" "J" ∈ sg_tbl := gd (i := 476) (by decide +kernel) rfl
theorem wd_439 : Jvm.Cond.lays "SearchGridsModel" "SearchGridsModel" "below" "J" ∈ sg_tbl := gd (i := 478) (by decide +kernel) rfl
theorem wd_442 : Jvm.Cond.methodLink "SearchGridsLaw" (27 : Nat) ({ cls := "SearchGridsModel", name := "counts", desc := "(IJ)Z" } : Jvm.MethodName) ∈ sg_tbl := gd (i := 481) (by decide +kernel) rfl
theorem wd_443 : Jvm.Cond.instanceMethod ({ cls := "SearchGridsModel", name := "counts", desc := "(IJ)Z" } : Jvm.MethodName) ∈ sg_tbl := gd (i := 482) (by decide +kernel) rfl
theorem wd_444 : Jvm.Cond.selects "SearchGridsModel" ({ cls := "SearchGridsModel", name := "counts", desc := "(IJ)Z" } : Jvm.MethodName) ({ cls := "SearchGridsModel", name := "counts", desc := "(IJ)Z" } : Jvm.MethodName) ∈ sg_tbl := gd (i := 483) (by decide +kernel) rfl
set_option maxRecDepth 100000 in
theorem wd_445 : Jvm.Cond.code ({ cls := "SearchGridsModel", name := "counts", desc := "(IJ)Z" } : Jvm.MethodName) prog_6_method_8_code (4 : Nat) (Option.some Jvm.ClassFile.FieldType.boolean) ∈ sg_tbl := gd (i := 484) rfl rfl
theorem wd_446 : Jvm.Cond.methodLink "SearchGridsModel" (76 : Nat) ({ cls := "SearchGridsModel", name := "countsOf", desc := "(IIJ)Z" } : Jvm.MethodName) ∈ sg_tbl := gd (i := 485) (by decide +kernel) rfl
theorem wd_447 : Jvm.Cond.instanceMethod ({ cls := "SearchGridsModel", name := "countsOf", desc := "(IIJ)Z" } : Jvm.MethodName) ∈ sg_tbl := gd (i := 486) (by decide +kernel) rfl
theorem wd_448 : Jvm.Cond.selects "SearchGridsModel" ({ cls := "SearchGridsModel", name := "countsOf", desc := "(IIJ)Z" } : Jvm.MethodName) ({ cls := "SearchGridsModel", name := "countsOf", desc := "(IIJ)Z" } : Jvm.MethodName) ∈ sg_tbl := gd (i := 487) (by decide +kernel) rfl
set_option maxRecDepth 100000 in
theorem wd_449 : Jvm.Cond.code ({ cls := "SearchGridsModel", name := "countsOf", desc := "(IIJ)Z" } : Jvm.MethodName) prog_6_method_9_code (6 : Nat) (Option.some Jvm.ClassFile.FieldType.boolean) ∈ sg_tbl := gd (i := 488) rfl rfl
theorem wd_450 : Jvm.Cond.methodLink "SearchGridsModel" (80 : Nat) ({ cls := "SearchGridsModel", name := "isCell", desc := "(I)Z" } : Jvm.MethodName) ∈ sg_tbl := gd (i := 489) (by decide +kernel) rfl
theorem wd_452 : Jvm.Cond.instanceMethod ({ cls := "SearchGridsModel", name := "isCell", desc := "(I)Z" } : Jvm.MethodName) ∈ sg_tbl := gd (i := 491) (by decide +kernel) rfl
set_option maxRecDepth 100000 in
theorem wd_453 : Jvm.Cond.code ({ cls := "SearchGridsModel", name := "isCell", desc := "(I)Z" } : Jvm.MethodName) prog_6_method_2_code (2 : Nat) (Option.some Jvm.ClassFile.FieldType.boolean) ∈ sg_tbl := gd (i := 492) rfl rfl
theorem wd_454 : Jvm.Cond.constantLong "SearchGridsModel" (84 : Nat) (1000 : Int64) ∈ sg_tbl := gd (i := 493) (by decide +kernel) rfl
theorem wd_455 : Jvm.Cond.methodLink "SearchGridsModel" (68 : Nat) ({ cls := "SearchGridsModel", name := "place", desc := "(I)I" } : Jvm.MethodName) ∈ sg_tbl := gd (i := 494) (by decide +kernel) rfl
theorem wd_457 : Jvm.Cond.instanceMethod ({ cls := "SearchGridsModel", name := "place", desc := "(I)I" } : Jvm.MethodName) ∈ sg_tbl := gd (i := 496) (by decide +kernel) rfl
set_option maxRecDepth 100000 in
theorem wd_458 : Jvm.Cond.code ({ cls := "SearchGridsModel", name := "place", desc := "(I)I" } : Jvm.MethodName) prog_6_method_4_code (3 : Nat) (Option.some Jvm.ClassFile.FieldType.int) ∈ sg_tbl := gd (i := 497) rfl rfl
theorem wd_459 : Jvm.Cond.methodLink "SearchGridsModel" (86 : Nat) ({ cls := "SearchGridsModel", name := "tell", desc := "(I)I" } : Jvm.MethodName) ∈ sg_tbl := gd (i := 498) (by decide +kernel) rfl
theorem wd_461 : Jvm.Cond.instanceMethod ({ cls := "SearchGridsModel", name := "tell", desc := "(I)I" } : Jvm.MethodName) ∈ sg_tbl := gd (i := 500) (by decide +kernel) rfl
set_option maxRecDepth 100000 in
theorem wd_462 : Jvm.Cond.code ({ cls := "SearchGridsModel", name := "tell", desc := "(I)I" } : Jvm.MethodName) prog_6_method_5_code (5 : Nat) (Option.some Jvm.ClassFile.FieldType.int) ∈ sg_tbl := gd (i := 501) rfl rfl
theorem wd_463 : Jvm.Cond.methodLink "SearchGridsModel" (72 : Nat) ({ cls := "SearchGridsModel", name := "move", desc := "(II)V" } : Jvm.MethodName) ∈ sg_tbl := gd (i := 502) (by decide +kernel) rfl
theorem wd_465 : Jvm.Cond.instanceMethod ({ cls := "SearchGridsModel", name := "move", desc := "(II)V" } : Jvm.MethodName) ∈ sg_tbl := gd (i := 504) (by decide +kernel) rfl
set_option maxRecDepth 100000 in
theorem wd_466 : Jvm.Cond.code ({ cls := "SearchGridsModel", name := "move", desc := "(II)V" } : Jvm.MethodName) prog_6_method_6_code (4 : Nat) (Option.none : Option Jvm.ClassFile.FieldType) ∈ sg_tbl := gd (i := 505) rfl rfl
theorem wd_467 : Jvm.Cond.methodLink "SearchGridsModel" (89 : Nat) ({ cls := "SearchGridsModel", name := "changed", desc := "()V" } : Jvm.MethodName) ∈ sg_tbl := gd (i := 506) (by decide +kernel) rfl
theorem wd_469 : Jvm.Cond.instanceMethod ({ cls := "SearchGridsModel", name := "changed", desc := "()V" } : Jvm.MethodName) ∈ sg_tbl := gd (i := 508) (by decide +kernel) rfl
set_option maxRecDepth 100000 in
theorem wd_470 : Jvm.Cond.code ({ cls := "SearchGridsModel", name := "changed", desc := "()V" } : Jvm.MethodName) prog_6_method_7_code (2 : Nat) (Option.none : Option Jvm.ClassFile.FieldType) ∈ sg_tbl := gd (i := 509) rfl rfl
theorem wd_471 : Jvm.Cond.methodLink "SearchGridsLaw" (100 : Nat) ({ cls := "SearchGridsModel", name := "countsOf", desc := "(IIJ)Z" } : Jvm.MethodName) ∈ sg_tbl := gd (i := 510) (by decide +kernel) rfl
theorem wd_472 : Jvm.Cond.methodLink "SearchGridsLaw" (37 : Nat) ({ cls := "SearchGridsModel", name := "looker", desc := "(JJI)I" } : Jvm.MethodName) ∈ sg_tbl := gd (i := 511) (by decide +kernel) rfl
theorem wd_473 : Jvm.Cond.instanceMethod ({ cls := "SearchGridsModel", name := "looker", desc := "(JJI)I" } : Jvm.MethodName) ∈ sg_tbl := gd (i := 512) (by decide +kernel) rfl
theorem wd_474 : Jvm.Cond.selects "SearchGridsModel" ({ cls := "SearchGridsModel", name := "looker", desc := "(JJI)I" } : Jvm.MethodName) ({ cls := "SearchGridsModel", name := "looker", desc := "(JJI)I" } : Jvm.MethodName) ∈ sg_tbl := gd (i := 513) (by decide +kernel) rfl
set_option maxRecDepth 100000 in
theorem wd_475 : Jvm.Cond.code ({ cls := "SearchGridsModel", name := "looker", desc := "(JJI)I" } : Jvm.MethodName) prog_6_method_10_code (6 : Nat) (Option.some Jvm.ClassFile.FieldType.int) ∈ sg_tbl := gd (i := 514) rfl rfl
theorem wd_476 : Jvm.Cond.methodLink "SearchGridsLaw" (42 : Nat) ({ cls := "SearchGridsModel", name := "bar", desc := "(II)Z" } : Jvm.MethodName) ∈ sg_tbl := gd (i := 515) (by decide +kernel) rfl
theorem wd_477 : Jvm.Cond.instanceMethod ({ cls := "SearchGridsModel", name := "bar", desc := "(II)Z" } : Jvm.MethodName) ∈ sg_tbl := gd (i := 516) (by decide +kernel) rfl
theorem wd_478 : Jvm.Cond.selects "SearchGridsModel" ({ cls := "SearchGridsModel", name := "bar", desc := "(II)Z" } : Jvm.MethodName) ({ cls := "SearchGridsModel", name := "bar", desc := "(II)Z" } : Jvm.MethodName) ∈ sg_tbl := gd (i := 517) (by decide +kernel) rfl
set_option maxRecDepth 100000 in
theorem wd_479 : Jvm.Cond.code ({ cls := "SearchGridsModel", name := "bar", desc := "(II)Z" } : Jvm.MethodName) prog_6_method_11_code (3 : Nat) (Option.some Jvm.ClassFile.FieldType.boolean) ∈ sg_tbl := gd (i := 518) rfl rfl
theorem wd_480 : Jvm.Cond.methodLink "SearchGridsModel" (95 : Nat) ({ cls := "SearchGridsModel", name := "rest", desc := "(III)Z" } : Jvm.MethodName) ∈ sg_tbl := gd (i := 519) (by decide +kernel) rfl
theorem wd_481 : Jvm.Cond.instanceMethod ({ cls := "SearchGridsModel", name := "rest", desc := "(III)Z" } : Jvm.MethodName) ∈ sg_tbl := gd (i := 520) (by decide +kernel) rfl
theorem wd_482 : Jvm.Cond.selects "SearchGridsModel" ({ cls := "SearchGridsModel", name := "rest", desc := "(III)Z" } : Jvm.MethodName) ({ cls := "SearchGridsModel", name := "rest", desc := "(III)Z" } : Jvm.MethodName) ∈ sg_tbl := gd (i := 521) (by decide +kernel) rfl
set_option maxRecDepth 100000 in
theorem wd_483 : Jvm.Cond.code ({ cls := "SearchGridsModel", name := "rest", desc := "(III)Z" } : Jvm.MethodName) prog_6_method_12_code (5 : Nat) (Option.some Jvm.ClassFile.FieldType.boolean) ∈ sg_tbl := gd (i := 522) rfl rfl
theorem wd_484 : Jvm.Cond.methodLink "SearchGridsModel" (99 : Nat) ({ cls := "SearchGridsModel", name := "isLooker", desc := "(I)Z" } : Jvm.MethodName) ∈ sg_tbl := gd (i := 523) (by decide +kernel) rfl
theorem wd_486 : Jvm.Cond.instanceMethod ({ cls := "SearchGridsModel", name := "isLooker", desc := "(I)Z" } : Jvm.MethodName) ∈ sg_tbl := gd (i := 525) (by decide +kernel) rfl
set_option maxRecDepth 100000 in
theorem wd_487 : Jvm.Cond.code ({ cls := "SearchGridsModel", name := "isLooker", desc := "(I)Z" } : Jvm.MethodName) prog_6_method_3_code (2 : Nat) (Option.some Jvm.ClassFile.FieldType.boolean) ∈ sg_tbl := gd (i := 526) rfl rfl
theorem wd_488 : Jvm.Cond.methodLink "SearchGridsLaw" (90 : Nat) ({ cls := "SearchGridsModel", name := "rest", desc := "(III)Z" } : Jvm.MethodName) ∈ sg_tbl := gd (i := 527) (by decide +kernel) rfl
theorem wd_489 : Jvm.Cond.methodLink "SearchGridsLaw" (95 : Nat) ({ cls := "SearchGridsModel", name := "thing", desc := "()I" } : Jvm.MethodName) ∈ sg_tbl := gd (i := 528) (by decide +kernel) rfl
theorem wd_490 : Jvm.Cond.instanceMethod ({ cls := "SearchGridsModel", name := "thing", desc := "()I" } : Jvm.MethodName) ∈ sg_tbl := gd (i := 529) (by decide +kernel) rfl
theorem wd_491 : Jvm.Cond.selects "SearchGridsModel" ({ cls := "SearchGridsModel", name := "thing", desc := "()I" } : Jvm.MethodName) ({ cls := "SearchGridsModel", name := "thing", desc := "()I" } : Jvm.MethodName) ∈ sg_tbl := gd (i := 530) (by decide +kernel) rfl
set_option maxRecDepth 100000 in
theorem wd_492 : Jvm.Cond.code ({ cls := "SearchGridsModel", name := "thing", desc := "()I" } : Jvm.MethodName) prog_6_method_13_code (1 : Nat) (Option.some Jvm.ClassFile.FieldType.int) ∈ sg_tbl := gd (i := 531) rfl rfl
theorem wd_493 : Jvm.Cond.methodLink "SearchGridsLaw" (125 : Nat) ({ cls := "SearchGridsModel", name := "area", desc := "(IJ)Z" } : Jvm.MethodName) ∈ sg_tbl := gd (i := 532) (by decide +kernel) rfl
theorem wd_494 : Jvm.Cond.instanceMethod ({ cls := "SearchGridsModel", name := "area", desc := "(IJ)Z" } : Jvm.MethodName) ∈ sg_tbl := gd (i := 533) (by decide +kernel) rfl
theorem wd_495 : Jvm.Cond.selects "SearchGridsModel" ({ cls := "SearchGridsModel", name := "area", desc := "(IJ)Z" } : Jvm.MethodName) ({ cls := "SearchGridsModel", name := "area", desc := "(IJ)Z" } : Jvm.MethodName) ∈ sg_tbl := gd (i := 534) (by decide +kernel) rfl
set_option maxRecDepth 100000 in
theorem wd_496 : Jvm.Cond.code ({ cls := "SearchGridsModel", name := "area", desc := "(IJ)Z" } : Jvm.MethodName) prog_6_method_14_code (5 : Nat) (Option.some Jvm.ClassFile.FieldType.boolean) ∈ sg_tbl := gd (i := 535) rfl rfl
theorem wd_497 : Jvm.Cond.constantLong "SearchGridsModel" (102 : Nat) (720 : Int64) ∈ sg_tbl := gd (i := 536) (by decide +kernel) rfl
theorem wd_498 : Jvm.Cond.methodLink "SearchGridsLaw" (105 : Nat) ({ cls := "SearchGridsModel", name := "stop", desc := "(JJ)Z" } : Jvm.MethodName) ∈ sg_tbl := gd (i := 537) (by decide +kernel) rfl
theorem wd_499 : Jvm.Cond.instanceMethod ({ cls := "SearchGridsModel", name := "stop", desc := "(JJ)Z" } : Jvm.MethodName) ∈ sg_tbl := gd (i := 538) (by decide +kernel) rfl
theorem wd_500 : Jvm.Cond.selects "SearchGridsModel" ({ cls := "SearchGridsModel", name := "stop", desc := "(JJ)Z" } : Jvm.MethodName) ({ cls := "SearchGridsModel", name := "stop", desc := "(JJ)Z" } : Jvm.MethodName) ∈ sg_tbl := gd (i := 539) (by decide +kernel) rfl
set_option maxRecDepth 100000 in
theorem wd_501 : Jvm.Cond.code ({ cls := "SearchGridsModel", name := "stop", desc := "(JJ)Z" } : Jvm.MethodName) prog_6_method_15_code (5 : Nat) (Option.some Jvm.ClassFile.FieldType.boolean) ∈ sg_tbl := gd (i := 540) rfl rfl
theorem wd_502 : Jvm.Cond.constantLong "SearchGridsModel" (104 : Nat) (100 : Int64) ∈ sg_tbl := gd (i := 541) (by decide +kernel) rfl
theorem wd_503 : Jvm.Cond.methodLink "SearchGridsLaw" (47 : Nat) ({ cls := "SearchGridsModel", name := "share", desc := "(I)I" } : Jvm.MethodName) ∈ sg_tbl := gd (i := 542) (by decide +kernel) rfl
theorem wd_504 : Jvm.Cond.instanceMethod ({ cls := "SearchGridsModel", name := "share", desc := "(I)I" } : Jvm.MethodName) ∈ sg_tbl := gd (i := 543) (by decide +kernel) rfl
theorem wd_505 : Jvm.Cond.selects "SearchGridsModel" ({ cls := "SearchGridsModel", name := "share", desc := "(I)I" } : Jvm.MethodName) ({ cls := "SearchGridsModel", name := "share", desc := "(I)I" } : Jvm.MethodName) ∈ sg_tbl := gd (i := 544) (by decide +kernel) rfl
set_option maxRecDepth 100000 in
theorem wd_506 : Jvm.Cond.code ({ cls := "SearchGridsModel", name := "share", desc := "(I)I" } : Jvm.MethodName) prog_6_method_22_code (13 : Nat) (Option.some Jvm.ClassFile.FieldType.int) ∈ sg_tbl := gd (i := 545) rfl rfl
theorem wd_507 : Jvm.Cond.methodLink "SearchGridsModel" (126 : Nat) ({ cls := "SearchGridsModel", name := "worth", desc := "([I)J" } : Jvm.MethodName) ∈ sg_tbl := gd (i := 546) (by decide +kernel) rfl
theorem wd_509 : Jvm.Cond.instanceMethod ({ cls := "SearchGridsModel", name := "worth", desc := "([I)J" } : Jvm.MethodName) ∈ sg_tbl := gd (i := 548) (by decide +kernel) rfl
set_option maxRecDepth 100000 in
theorem wd_510 : Jvm.Cond.code ({ cls := "SearchGridsModel", name := "worth", desc := "([I)J" } : Jvm.MethodName) prog_6_method_18_code (5 : Nat) (Option.some Jvm.ClassFile.FieldType.long) ∈ sg_tbl := gd (i := 549) rfl rfl
theorem wd_511 : Jvm.Cond.methodLink "SearchGridsModel" (113 : Nat) ({ cls := "SearchGridsModel", name := "weight", desc := "(I)I" } : Jvm.MethodName) ∈ sg_tbl := gd (i := 550) (by decide +kernel) rfl
theorem wd_513 : Jvm.Cond.instanceMethod ({ cls := "SearchGridsModel", name := "weight", desc := "(I)I" } : Jvm.MethodName) ∈ sg_tbl := gd (i := 552) (by decide +kernel) rfl
set_option maxRecDepth 100000 in
theorem wd_514 : Jvm.Cond.code ({ cls := "SearchGridsModel", name := "weight", desc := "(I)I" } : Jvm.MethodName) prog_6_method_17_code (2 : Nat) (Option.some Jvm.ClassFile.FieldType.int) ∈ sg_tbl := gd (i := 553) rfl rfl
theorem wd_515 : Jvm.Cond.constantLong "SearchGridsModel" (116 : Nat) (268738560000 : Int64) ∈ sg_tbl := gd (i := 554) (by decide +kernel) rfl
theorem wd_516 : Jvm.Cond.methodLink "SearchGridsModel" (118 : Nat) ({ cls := "SearchGridsModel", name := "missed", desc := "([II)J" } : Jvm.MethodName) ∈ sg_tbl := gd (i := 555) (by decide +kernel) rfl
theorem wd_518 : Jvm.Cond.instanceMethod ({ cls := "SearchGridsModel", name := "missed", desc := "([II)J" } : Jvm.MethodName) ∈ sg_tbl := gd (i := 557) (by decide +kernel) rfl
set_option maxRecDepth 100000 in
theorem wd_519 : Jvm.Cond.code ({ cls := "SearchGridsModel", name := "missed", desc := "([II)J" } : Jvm.MethodName) prog_6_method_16_code (8 : Nat) (Option.some Jvm.ClassFile.FieldType.long) ∈ sg_tbl := gd (i := 558) rfl rfl
theorem wd_520 : Jvm.Cond.methodLink "SearchGridsModel" (122 : Nat) ({ cls := "SearchGridsModel", name := "given", desc := "([II)I" } : Jvm.MethodName) ∈ sg_tbl := gd (i := 559) (by decide +kernel) rfl
theorem wd_522 : Jvm.Cond.instanceMethod ({ cls := "SearchGridsModel", name := "given", desc := "([II)I" } : Jvm.MethodName) ∈ sg_tbl := gd (i := 561) (by decide +kernel) rfl
set_option maxRecDepth 100000 in
theorem wd_523 : Jvm.Cond.code ({ cls := "SearchGridsModel", name := "given", desc := "([II)I" } : Jvm.MethodName) prog_6_method_20_code (5 : Nat) (Option.some Jvm.ClassFile.FieldType.int) ∈ sg_tbl := gd (i := 562) rfl rfl
theorem wd_524 : Jvm.Cond.methodLink "SearchGridsModel" (130 : Nat) ({ cls := "SearchGridsModel", name := "use", desc := "(I)I" } : Jvm.MethodName) ∈ sg_tbl := gd (i := 563) (by decide +kernel) rfl
theorem wd_526 : Jvm.Cond.instanceMethod ({ cls := "SearchGridsModel", name := "use", desc := "(I)I" } : Jvm.MethodName) ∈ sg_tbl := gd (i := 565) (by decide +kernel) rfl
set_option maxRecDepth 100000 in
theorem wd_527 : Jvm.Cond.code ({ cls := "SearchGridsModel", name := "use", desc := "(I)I" } : Jvm.MethodName) prog_6_method_19_code (4 : Nat) (Option.some Jvm.ClassFile.FieldType.int) ∈ sg_tbl := gd (i := 566) rfl rfl
theorem wd_528 : Jvm.Cond.methodLink "SearchGridsModel" (133 : Nat) ({ cls := "SearchGridsModel", name := "size", desc := "()I" } : Jvm.MethodName) ∈ sg_tbl := gd (i := 567) (by decide +kernel) rfl
theorem wd_530 : Jvm.Cond.instanceMethod ({ cls := "SearchGridsModel", name := "size", desc := "()I" } : Jvm.MethodName) ∈ sg_tbl := gd (i := 569) (by decide +kernel) rfl
set_option maxRecDepth 100000 in
theorem wd_531 : Jvm.Cond.code ({ cls := "SearchGridsModel", name := "size", desc := "()I" } : Jvm.MethodName) prog_6_method_21_code (3 : Nat) (Option.some Jvm.ClassFile.FieldType.int) ∈ sg_tbl := gd (i := 570) rfl rfl
theorem wd_532 : Jvm.Cond.methodLink "SearchGridsLaw" (52 : Nat) ({ cls := "SearchGridsModel", name := "of", desc := "(II)I" } : Jvm.MethodName) ∈ sg_tbl := gd (i := 571) (by decide +kernel) rfl
theorem wd_533 : Jvm.Cond.instanceMethod ({ cls := "SearchGridsModel", name := "of", desc := "(II)I" } : Jvm.MethodName) ∈ sg_tbl := gd (i := 572) (by decide +kernel) rfl
theorem wd_534 : Jvm.Cond.selects "SearchGridsModel" ({ cls := "SearchGridsModel", name := "of", desc := "(II)I" } : Jvm.MethodName) ({ cls := "SearchGridsModel", name := "of", desc := "(II)I" } : Jvm.MethodName) ∈ sg_tbl := gd (i := 573) (by decide +kernel) rfl
set_option maxRecDepth 100000 in
theorem wd_535 : Jvm.Cond.code ({ cls := "SearchGridsModel", name := "of", desc := "(II)I" } : Jvm.MethodName) prog_6_method_23_code (3 : Nat) (Option.some Jvm.ClassFile.FieldType.int) ∈ sg_tbl := gd (i := 574) rfl rfl
theorem wd_536 : Jvm.Cond.methodLink "SearchGridsLaw" (57 : Nat) ({ cls := "SearchGridsModel", name := "tried", desc := "()Z" } : Jvm.MethodName) ∈ sg_tbl := gd (i := 575) (by decide +kernel) rfl
theorem wd_537 : Jvm.Cond.instanceMethod ({ cls := "SearchGridsModel", name := "tried", desc := "()Z" } : Jvm.MethodName) ∈ sg_tbl := gd (i := 576) (by decide +kernel) rfl
theorem wd_538 : Jvm.Cond.selects "SearchGridsModel" ({ cls := "SearchGridsModel", name := "tried", desc := "()Z" } : Jvm.MethodName) ({ cls := "SearchGridsModel", name := "tried", desc := "()Z" } : Jvm.MethodName) ∈ sg_tbl := gd (i := 577) (by decide +kernel) rfl
set_option maxRecDepth 100000 in
theorem wd_539 : Jvm.Cond.code ({ cls := "SearchGridsModel", name := "tried", desc := "()Z" } : Jvm.MethodName) prog_6_method_24_code (5 : Nat) (Option.some Jvm.ClassFile.FieldType.boolean) ∈ sg_tbl := gd (i := 578) rfl rfl
theorem wd_540 : Jvm.Cond.methodLink "SearchGridsModel" (137 : Nat) ({ cls := "SearchGridsModel", name := "isBetter", desc := "(IIJ)Z" } : Jvm.MethodName) ∈ sg_tbl := gd (i := 579) (by decide +kernel) rfl
theorem wd_542 : Jvm.Cond.instanceMethod ({ cls := "SearchGridsModel", name := "isBetter", desc := "(IIJ)Z" } : Jvm.MethodName) ∈ sg_tbl := gd (i := 581) (by decide +kernel) rfl
set_option maxRecDepth 100000 in
theorem wd_543 : Jvm.Cond.code ({ cls := "SearchGridsModel", name := "isBetter", desc := "(IIJ)Z" } : Jvm.MethodName) prog_6_method_25_code (9 : Nat) (Option.some Jvm.ClassFile.FieldType.boolean) ∈ sg_tbl := gd (i := 582) rfl rfl
theorem wd_544 : Jvm.Cond.methodLink "SearchGridsModel" (140 : Nat) ({ cls := "SearchGridsModel", name := "slot", desc := "(I)I" } : Jvm.MethodName) ∈ sg_tbl := gd (i := 583) (by decide +kernel) rfl
theorem wd_546 : Jvm.Cond.instanceMethod ({ cls := "SearchGridsModel", name := "slot", desc := "(I)I" } : Jvm.MethodName) ∈ sg_tbl := gd (i := 585) (by decide +kernel) rfl
set_option maxRecDepth 100000 in
theorem wd_547 : Jvm.Cond.code ({ cls := "SearchGridsModel", name := "slot", desc := "(I)I" } : Jvm.MethodName) prog_6_method_26_code (2 : Nat) (Option.some Jvm.ClassFile.FieldType.int) ∈ sg_tbl := gd (i := 586) rfl rfl
theorem wd_548 : Jvm.Cond.methodLink "SearchGridsLaw" (32 : Nat) ({ cls := "SearchGridsModel", name := "odds", desc := "(II)J" } : Jvm.MethodName) ∈ sg_tbl := gd (i := 587) (by decide +kernel) rfl
theorem wd_549 : Jvm.Cond.instanceMethod ({ cls := "SearchGridsModel", name := "odds", desc := "(II)J" } : Jvm.MethodName) ∈ sg_tbl := gd (i := 588) (by decide +kernel) rfl
theorem wd_550 : Jvm.Cond.selects "SearchGridsModel" ({ cls := "SearchGridsModel", name := "odds", desc := "(II)J" } : Jvm.MethodName) ({ cls := "SearchGridsModel", name := "odds", desc := "(II)J" } : Jvm.MethodName) ∈ sg_tbl := gd (i := 589) (by decide +kernel) rfl
set_option maxRecDepth 100000 in
theorem wd_551 : Jvm.Cond.code ({ cls := "SearchGridsModel", name := "odds", desc := "(II)J" } : Jvm.MethodName) prog_6_method_31_code (4 : Nat) (Option.some Jvm.ClassFile.FieldType.long) ∈ sg_tbl := gd (i := 590) rfl rfl
theorem wd_552 : Jvm.Cond.constantLong "SearchGridsModel" (143 : Nat) (-1 : Int64) ∈ sg_tbl := gd (i := 591) (by decide +kernel) rfl
theorem wd_553 : Jvm.Cond.methodLink "SearchGridsModel" (149 : Nat) ({ cls := "SearchGridsModel", name := "all", desc := "()J" } : Jvm.MethodName) ∈ sg_tbl := gd (i := 592) (by decide +kernel) rfl
theorem wd_555 : Jvm.Cond.instanceMethod ({ cls := "SearchGridsModel", name := "all", desc := "()J" } : Jvm.MethodName) ∈ sg_tbl := gd (i := 594) (by decide +kernel) rfl
set_option maxRecDepth 100000 in
theorem wd_556 : Jvm.Cond.code ({ cls := "SearchGridsModel", name := "all", desc := "()J" } : Jvm.MethodName) prog_6_method_29_code (4 : Nat) (Option.some Jvm.ClassFile.FieldType.long) ∈ sg_tbl := gd (i := 595) rfl rfl
theorem wd_557 : Jvm.Cond.methodLink "SearchGridsModel" (153 : Nat) ({ cls := "SearchGridsModel", name := "part", desc := "(JJI)J" } : Jvm.MethodName) ∈ sg_tbl := gd (i := 596) (by decide +kernel) rfl
theorem wd_558 : Jvm.Cond.static ({ cls := "SearchGridsModel", name := "part", desc := "(JJI)J" } : Jvm.MethodName) ∈ sg_tbl := gd (i := 597) (by decide +kernel) rfl
set_option maxRecDepth 100000 in
theorem wd_559 : Jvm.Cond.code ({ cls := "SearchGridsModel", name := "part", desc := "(JJI)J" } : Jvm.MethodName) prog_6_method_28_code (7 : Nat) (Option.some Jvm.ClassFile.FieldType.long) ∈ sg_tbl := gd (i := 598) rfl rfl
theorem wd_560 : Jvm.Cond.methodLink "SearchGridsModel" (145 : Nat) ({ cls := "SearchGridsModel", name := "common", desc := "(JJ)J" } : Jvm.MethodName) ∈ sg_tbl := gd (i := 599) (by decide +kernel) rfl
theorem wd_561 : Jvm.Cond.static ({ cls := "SearchGridsModel", name := "common", desc := "(JJ)J" } : Jvm.MethodName) ∈ sg_tbl := gd (i := 600) (by decide +kernel) rfl
set_option maxRecDepth 100000 in
theorem wd_562 : Jvm.Cond.code ({ cls := "SearchGridsModel", name := "common", desc := "(JJ)J" } : Jvm.MethodName) prog_6_method_27_code (10 : Nat) (Option.some Jvm.ClassFile.FieldType.long) ∈ sg_tbl := gd (i := 601) rfl rfl
theorem wd_563 : Jvm.Cond.methodLink "SearchGridsLaw" (66 : Nat) ({ cls := "SearchGridsModel", name := "after", desc := "(II)J" } : Jvm.MethodName) ∈ sg_tbl := gd (i := 602) (by decide +kernel) rfl
theorem wd_564 : Jvm.Cond.instanceMethod ({ cls := "SearchGridsModel", name := "after", desc := "(II)J" } : Jvm.MethodName) ∈ sg_tbl := gd (i := 603) (by decide +kernel) rfl
theorem wd_565 : Jvm.Cond.selects "SearchGridsModel" ({ cls := "SearchGridsModel", name := "after", desc := "(II)J" } : Jvm.MethodName) ({ cls := "SearchGridsModel", name := "after", desc := "(II)J" } : Jvm.MethodName) ∈ sg_tbl := gd (i := 604) (by decide +kernel) rfl
set_option maxRecDepth 100000 in
theorem wd_566 : Jvm.Cond.code ({ cls := "SearchGridsModel", name := "after", desc := "(II)J" } : Jvm.MethodName) prog_6_method_32_code (4 : Nat) (Option.some Jvm.ClassFile.FieldType.long) ∈ sg_tbl := gd (i := 605) rfl rfl
theorem wd_567 : Jvm.Cond.methodLink "SearchGridsModel" (157 : Nat) ({ cls := "SearchGridsModel", name := "left", desc := "()J" } : Jvm.MethodName) ∈ sg_tbl := gd (i := 606) (by decide +kernel) rfl
theorem wd_569 : Jvm.Cond.instanceMethod ({ cls := "SearchGridsModel", name := "left", desc := "()J" } : Jvm.MethodName) ∈ sg_tbl := gd (i := 608) (by decide +kernel) rfl
set_option maxRecDepth 100000 in
theorem wd_570 : Jvm.Cond.code ({ cls := "SearchGridsModel", name := "left", desc := "()J" } : Jvm.MethodName) prog_6_method_30_code (4 : Nat) (Option.some Jvm.ClassFile.FieldType.long) ∈ sg_tbl := gd (i := 609) rfl rfl
theorem wd_571 : Jvm.Cond.methodLink "SearchGridsLaw" (70 : Nat) ({ cls := "SearchGridsModel", name := "sums", desc := "()Z" } : Jvm.MethodName) ∈ sg_tbl := gd (i := 610) (by decide +kernel) rfl
theorem wd_572 : Jvm.Cond.instanceMethod ({ cls := "SearchGridsModel", name := "sums", desc := "()Z" } : Jvm.MethodName) ∈ sg_tbl := gd (i := 611) (by decide +kernel) rfl
theorem wd_573 : Jvm.Cond.selects "SearchGridsModel" ({ cls := "SearchGridsModel", name := "sums", desc := "()Z" } : Jvm.MethodName) ({ cls := "SearchGridsModel", name := "sums", desc := "()Z" } : Jvm.MethodName) ∈ sg_tbl := gd (i := 612) (by decide +kernel) rfl
set_option maxRecDepth 100000 in
theorem wd_574 : Jvm.Cond.code ({ cls := "SearchGridsModel", name := "sums", desc := "()Z" } : Jvm.MethodName) prog_6_method_33_code (1 : Nat) (Option.some Jvm.ClassFile.FieldType.boolean) ∈ sg_tbl := gd (i := 613) rfl rfl
theorem wd_575 : Jvm.Cond.methodLink "SearchGridsLaw" (75 : Nat) ({ cls := "SearchGridsModel", name := "found", desc := "(I)J" } : Jvm.MethodName) ∈ sg_tbl := gd (i := 614) (by decide +kernel) rfl
theorem wd_576 : Jvm.Cond.instanceMethod ({ cls := "SearchGridsModel", name := "found", desc := "(I)J" } : Jvm.MethodName) ∈ sg_tbl := gd (i := 615) (by decide +kernel) rfl
theorem wd_577 : Jvm.Cond.selects "SearchGridsModel" ({ cls := "SearchGridsModel", name := "found", desc := "(I)J" } : Jvm.MethodName) ({ cls := "SearchGridsModel", name := "found", desc := "(I)J" } : Jvm.MethodName) ∈ sg_tbl := gd (i := 616) (by decide +kernel) rfl
set_option maxRecDepth 100000 in
theorem wd_578 : Jvm.Cond.code ({ cls := "SearchGridsModel", name := "found", desc := "(I)J" } : Jvm.MethodName) prog_6_method_34_code (5 : Nat) (Option.some Jvm.ClassFile.FieldType.long) ∈ sg_tbl := gd (i := 617) rfl rfl
theorem wd_579 : Jvm.Cond.methodLink "SearchGridsLaw" (62 : Nat) ({ cls := "SearchGridsModel", name := "look", desc := "(IIJJ)I" } : Jvm.MethodName) ∈ sg_tbl := gd (i := 618) (by decide +kernel) rfl
theorem wd_580 : Jvm.Cond.instanceMethod ({ cls := "SearchGridsModel", name := "look", desc := "(IIJJ)I" } : Jvm.MethodName) ∈ sg_tbl := gd (i := 619) (by decide +kernel) rfl
theorem wd_581 : Jvm.Cond.selects "SearchGridsModel" ({ cls := "SearchGridsModel", name := "look", desc := "(IIJJ)I" } : Jvm.MethodName) ({ cls := "SearchGridsModel", name := "look", desc := "(IIJJ)I" } : Jvm.MethodName) ∈ sg_tbl := gd (i := 620) (by decide +kernel) rfl
set_option maxRecDepth 100000 in
theorem wd_582 : Jvm.Cond.code ({ cls := "SearchGridsModel", name := "look", desc := "(IIJJ)I" } : Jvm.MethodName) prog_6_method_35_code (7 : Nat) (Option.some Jvm.ClassFile.FieldType.int) ∈ sg_tbl := gd (i := 621) rfl rfl
theorem wd_583 : Jvm.Cond.methodLink "SearchGridsLaw" (117 : Nat) ({ cls := "SearchGridsModel", name := "seen", desc := "(II)Z" } : Jvm.MethodName) ∈ sg_tbl := gd (i := 622) (by decide +kernel) rfl
theorem wd_584 : Jvm.Cond.instanceMethod ({ cls := "SearchGridsModel", name := "seen", desc := "(II)Z" } : Jvm.MethodName) ∈ sg_tbl := gd (i := 623) (by decide +kernel) rfl
theorem wd_585 : Jvm.Cond.selects "SearchGridsModel" ({ cls := "SearchGridsModel", name := "seen", desc := "(II)Z" } : Jvm.MethodName) ({ cls := "SearchGridsModel", name := "seen", desc := "(II)Z" } : Jvm.MethodName) ∈ sg_tbl := gd (i := 624) (by decide +kernel) rfl
set_option maxRecDepth 100000 in
theorem wd_586 : Jvm.Cond.code ({ cls := "SearchGridsModel", name := "seen", desc := "(II)Z" } : Jvm.MethodName) prog_6_method_36_code (3 : Nat) (Option.some Jvm.ClassFile.FieldType.boolean) ∈ sg_tbl := gd (i := 625) rfl rfl
theorem wd_587 : Jvm.Cond.methodLink "SearchGridsLaw" (109 : Nat) ({ cls := "SearchGridsModel", name := "stops", desc := "()I" } : Jvm.MethodName) ∈ sg_tbl := gd (i := 626) (by decide +kernel) rfl
theorem wd_588 : Jvm.Cond.instanceMethod ({ cls := "SearchGridsModel", name := "stops", desc := "()I" } : Jvm.MethodName) ∈ sg_tbl := gd (i := 627) (by decide +kernel) rfl
theorem wd_589 : Jvm.Cond.selects "SearchGridsModel" ({ cls := "SearchGridsModel", name := "stops", desc := "()I" } : Jvm.MethodName) ({ cls := "SearchGridsModel", name := "stops", desc := "()I" } : Jvm.MethodName) ∈ sg_tbl := gd (i := 628) (by decide +kernel) rfl
set_option maxRecDepth 100000 in
theorem wd_590 : Jvm.Cond.code ({ cls := "SearchGridsModel", name := "stops", desc := "()I" } : Jvm.MethodName) prog_6_method_37_code (1 : Nat) (Option.some Jvm.ClassFile.FieldType.int) ∈ sg_tbl := gd (i := 629) rfl rfl
theorem wd_591 : Jvm.Cond.methodLink "SearchGridsLaw" (113 : Nat) ({ cls := "SearchGridsModel", name := "order", desc := "(I)I" } : Jvm.MethodName) ∈ sg_tbl := gd (i := 630) (by decide +kernel) rfl
theorem wd_592 : Jvm.Cond.instanceMethod ({ cls := "SearchGridsModel", name := "order", desc := "(I)I" } : Jvm.MethodName) ∈ sg_tbl := gd (i := 631) (by decide +kernel) rfl
theorem wd_593 : Jvm.Cond.selects "SearchGridsModel" ({ cls := "SearchGridsModel", name := "order", desc := "(I)I" } : Jvm.MethodName) ({ cls := "SearchGridsModel", name := "order", desc := "(I)I" } : Jvm.MethodName) ∈ sg_tbl := gd (i := 632) (by decide +kernel) rfl
set_option maxRecDepth 100000 in
theorem wd_594 : Jvm.Cond.code ({ cls := "SearchGridsModel", name := "order", desc := "(I)I" } : Jvm.MethodName) prog_6_method_39_code (5 : Nat) (Option.some Jvm.ClassFile.FieldType.int) ∈ sg_tbl := gd (i := 633) rfl rfl
theorem wd_595 : Jvm.Cond.methodLink "SearchGridsModel" (160 : Nat) ({ cls := "SearchGridsModel", name := "rank", desc := "(I)J" } : Jvm.MethodName) ∈ sg_tbl := gd (i := 634) (by decide +kernel) rfl
theorem wd_597 : Jvm.Cond.instanceMethod ({ cls := "SearchGridsModel", name := "rank", desc := "(I)J" } : Jvm.MethodName) ∈ sg_tbl := gd (i := 636) (by decide +kernel) rfl
set_option maxRecDepth 100000 in
theorem wd_598 : Jvm.Cond.code ({ cls := "SearchGridsModel", name := "rank", desc := "(I)J" } : Jvm.MethodName) prog_6_method_38_code (2 : Nat) (Option.some Jvm.ClassFile.FieldType.long) ∈ sg_tbl := gd (i := 637) rfl rfl
theorem wd_599 : Jvm.Cond.methodLink "SearchGridsLaw" (121 : Nat) ({ cls := "SearchGridsModel", name := "log", desc := "(II)I" } : Jvm.MethodName) ∈ sg_tbl := gd (i := 638) (by decide +kernel) rfl
theorem wd_600 : Jvm.Cond.instanceMethod ({ cls := "SearchGridsModel", name := "log", desc := "(II)I" } : Jvm.MethodName) ∈ sg_tbl := gd (i := 639) (by decide +kernel) rfl
theorem wd_601 : Jvm.Cond.selects "SearchGridsModel" ({ cls := "SearchGridsModel", name := "log", desc := "(II)I" } : Jvm.MethodName) ({ cls := "SearchGridsModel", name := "log", desc := "(II)I" } : Jvm.MethodName) ∈ sg_tbl := gd (i := 640) (by decide +kernel) rfl
set_option maxRecDepth 100000 in
theorem wd_602 : Jvm.Cond.code ({ cls := "SearchGridsModel", name := "log", desc := "(II)I" } : Jvm.MethodName) prog_6_method_40_code (6 : Nat) (Option.some Jvm.ClassFile.FieldType.int) ∈ sg_tbl := gd (i := 641) rfl rfl
theorem wd_603 : Jvm.Cond.methodLink "SearchGridsLaw" (80 : Nat) ({ cls := "SearchGridsModel", name := "line", desc := "(III)I" } : Jvm.MethodName) ∈ sg_tbl := gd (i := 642) (by decide +kernel) rfl
theorem wd_604 : Jvm.Cond.instanceMethod ({ cls := "SearchGridsModel", name := "line", desc := "(III)I" } : Jvm.MethodName) ∈ sg_tbl := gd (i := 643) (by decide +kernel) rfl
theorem wd_605 : Jvm.Cond.selects "SearchGridsModel" ({ cls := "SearchGridsModel", name := "line", desc := "(III)I" } : Jvm.MethodName) ({ cls := "SearchGridsModel", name := "line", desc := "(III)I" } : Jvm.MethodName) ∈ sg_tbl := gd (i := 644) (by decide +kernel) rfl
set_option maxRecDepth 100000 in
theorem wd_606 : Jvm.Cond.code ({ cls := "SearchGridsModel", name := "line", desc := "(III)I" } : Jvm.MethodName) prog_6_method_41_code (7 : Nat) (Option.some Jvm.ClassFile.FieldType.int) ∈ sg_tbl := gd (i := 645) rfl rfl
theorem wd_607 : Jvm.Cond.methodLink "SearchGridsLaw" (85 : Nat) ({ cls := "SearchGridsModel", name := "covers", desc := "(I)Z" } : Jvm.MethodName) ∈ sg_tbl := gd (i := 646) (by decide +kernel) rfl
theorem wd_608 : Jvm.Cond.instanceMethod ({ cls := "SearchGridsModel", name := "covers", desc := "(I)Z" } : Jvm.MethodName) ∈ sg_tbl := gd (i := 647) (by decide +kernel) rfl
theorem wd_609 : Jvm.Cond.selects "SearchGridsModel" ({ cls := "SearchGridsModel", name := "covers", desc := "(I)Z" } : Jvm.MethodName) ({ cls := "SearchGridsModel", name := "covers", desc := "(I)Z" } : Jvm.MethodName) ∈ sg_tbl := gd (i := 648) (by decide +kernel) rfl
set_option maxRecDepth 100000 in
theorem wd_610 : Jvm.Cond.code ({ cls := "SearchGridsModel", name := "covers", desc := "(I)Z" } : Jvm.MethodName) prog_6_method_42_code (2 : Nat) (Option.some Jvm.ClassFile.FieldType.boolean) ∈ sg_tbl := gd (i := 649) rfl rfl
theorem wd_611 : Jvm.Cond.constantLong "SearchGridsLaw" (21 : Nat) (4294967295 : Int64) ∈ sg_tbl := gd (i := 650) (by decide +kernel) rfl
theorem sl_0 : Cond.selects "SearchGrids" ⟨"SearchGrids", "isCell", "(I)Z"⟩ ⟨"SearchGrids", "isCell", "(I)Z"⟩ ∈ sg_tbl := gd (i := 0) (by decide +kernel) rfl
theorem sl_1 : Cond.selects "SearchGrids" ⟨"SearchGrids", "tellOf", "(I)I"⟩ ⟨"SearchGrids", "tellOf", "(I)I"⟩ ∈ sg_tbl := gd (i := 1) (by decide +kernel) rfl
theorem sl_2 : Cond.selects "SearchGrids" ⟨"SearchGrids", "placeOf", "(I)I"⟩ ⟨"SearchGrids", "placeOf", "(I)I"⟩ ∈ sg_tbl := gd (i := 2) (by decide +kernel) rfl
theorem sl_3 : Cond.selects "SearchGrids" ⟨"SearchGrids", "dropPlan", "()V"⟩ ⟨"SearchGrids", "dropPlan", "()V"⟩ ∈ sg_tbl := gd (i := 3) (by decide +kernel) rfl
theorem sl_4 : Cond.selects "SearchGrids" ⟨"SearchGrids", "allCounts", "()J"⟩ ⟨"SearchGrids", "allCounts", "()J"⟩ ∈ sg_tbl := gd (i := 4) (by decide +kernel) rfl
theorem sl_5 : Cond.selects "SearchGrids$Looker" ⟨"SearchGrids$Looker", "begin", "(I)V"⟩ ⟨"SearchGrids$Looker", "begin", "(I)V"⟩ ∈ sg_tbl := gd (i := 5) (by decide +kernel) rfl
theorem sl_6 : Cond.selects "SearchGrids" ⟨"SearchGrids", "isLooker", "(I)Z"⟩ ⟨"SearchGrids", "isLooker", "(I)Z"⟩ ∈ sg_tbl := gd (i := 6) (by decide +kernel) rfl
theorem sl_7 : Cond.selects "SearchGrids$Looker" ⟨"SearchGrids$Looker", "takeAway", "(II)V"⟩ ⟨"SearchGrids$Looker", "takeAway", "(II)V"⟩ ∈ sg_tbl := gd (i := 7) (by decide +kernel) rfl
theorem sl_8 : Cond.selects "SearchGrids$Cell" ⟨"SearchGrids$Cell", "reckonGains", "([I)V"⟩ ⟨"SearchGrids$Cell", "reckonGains", "([I)V"⟩ ∈ sg_tbl := gd (i := 8) (by decide +kernel) rfl
theorem sl_9 : Cond.selects "SearchGrids$Cell" ⟨"SearchGrids$Cell", "finds", "([I[I)J"⟩ ⟨"SearchGrids$Cell", "finds", "([I[I)J"⟩ ∈ sg_tbl := gd (i := 9) (by decide +kernel) rfl
theorem sl_10 : Cond.selects "SearchGrids$Cell" ⟨"SearchGrids$Cell", "weight", "()J"⟩ ⟨"SearchGrids$Cell", "weight", "()J"⟩ ∈ sg_tbl := gd (i := 10) (by decide +kernel) rfl
theorem sl_11 : Cond.selects "SearchGrids$Cell" ⟨"SearchGrids$Cell", "missed", "([I[I)J"⟩ ⟨"SearchGrids$Cell", "missed", "([I[I)J"⟩ ∈ sg_tbl := gd (i := 11) (by decide +kernel) rfl
theorem sl_12 : Cond.selects "SearchGrids$Cell" ⟨"SearchGrids$Cell", "missedBy", "(II)J"⟩ ⟨"SearchGrids$Cell", "missedBy", "(II)J"⟩ ∈ sg_tbl := gd (i := 12) (by decide +kernel) rfl
theorem sl_13 : Cond.selects "SearchGrids" ⟨"SearchGrids", "giveBestHour", "()Z"⟩ ⟨"SearchGrids", "giveBestHour", "()Z"⟩ ∈ sg_tbl := gd (i := 13) (by decide +kernel) rfl
theorem sl_14 : Cond.selects "SearchGrids" ⟨"SearchGrids", "plannedHours", "()I"⟩ ⟨"SearchGrids", "plannedHours", "()I"⟩ ∈ sg_tbl := gd (i := 14) (by decide +kernel) rfl
theorem sl_15 : Cond.selects "SearchGrids" ⟨"SearchGrids", "plannedFinds", "()J"⟩ ⟨"SearchGrids", "plannedFinds", "()J"⟩ ∈ sg_tbl := gd (i := 15) (by decide +kernel) rfl
theorem sl_16 : Cond.selects "SearchGrids" ⟨"SearchGrids", "isOutdone", "(IIIJJ)Z"⟩ ⟨"SearchGrids", "isOutdone", "(IIIJJ)Z"⟩ ∈ sg_tbl := gd (i := 16) (by decide +kernel) rfl
theorem sl_17 : Cond.selects "SearchGrids$LookLog" ⟨"SearchGrids$LookLog", "add", "(IIIJ)I"⟩ ⟨"SearchGrids$LookLog", "add", "(IIIJ)I"⟩ ∈ sg_tbl := gd (i := 17) (by decide +kernel) rfl
theorem sl_18 : Cond.selects "SearchGrids$Cell" ⟨"SearchGrids$Cell", "remains", "([I)J"⟩ ⟨"SearchGrids$Cell", "remains", "([I)J"⟩ ∈ sg_tbl := gd (i := 18) (by decide +kernel) rfl
theorem sl_19 : Cond.selects "SearchGrids" ⟨"SearchGrids", "allRemains", "()J"⟩ ⟨"SearchGrids", "allRemains", "()J"⟩ ∈ sg_tbl := gd (i := 19) (by decide +kernel) rfl
theorem sl_20 : Cond.selects "SearchGrids" ⟨"SearchGrids", "standingOf", "(LSearchGrids$Cell;)J"⟩ ⟨"SearchGrids", "standingOf", "(LSearchGrids$Cell;)J"⟩ ∈ sg_tbl := gd (i := 20) (by decide +kernel) rfl
theorem sl_21 : Cond.selects "SearchGrids" ⟨"SearchGrids", "countBefore", "(I)I"⟩ ⟨"SearchGrids", "countBefore", "(I)I"⟩ ∈ sg_tbl := gd (i := 21) (by decide +kernel) rfl
theorem sl_22 : Cond.selects "SearchGridsModel" ⟨"SearchGridsModel", "isCell", "(I)Z"⟩ ⟨"SearchGridsModel", "isCell", "(I)Z"⟩ ∈ sg_tbl := gd (i := 22) (by decide +kernel) rfl
theorem sl_23 : Cond.selects "SearchGridsModel" ⟨"SearchGridsModel", "place", "(I)I"⟩ ⟨"SearchGridsModel", "place", "(I)I"⟩ ∈ sg_tbl := gd (i := 23) (by decide +kernel) rfl
theorem sl_24 : Cond.selects "SearchGridsModel" ⟨"SearchGridsModel", "tell", "(I)I"⟩ ⟨"SearchGridsModel", "tell", "(I)I"⟩ ∈ sg_tbl := gd (i := 24) (by decide +kernel) rfl
theorem sl_25 : Cond.selects "SearchGridsModel" ⟨"SearchGridsModel", "move", "(II)V"⟩ ⟨"SearchGridsModel", "move", "(II)V"⟩ ∈ sg_tbl := gd (i := 25) (by decide +kernel) rfl
theorem sl_26 : Cond.selects "SearchGridsModel" ⟨"SearchGridsModel", "changed", "()V"⟩ ⟨"SearchGridsModel", "changed", "()V"⟩ ∈ sg_tbl := gd (i := 26) (by decide +kernel) rfl
theorem sl_27 : Cond.selects "SearchGridsModel" ⟨"SearchGridsModel", "isLooker", "(I)Z"⟩ ⟨"SearchGridsModel", "isLooker", "(I)Z"⟩ ∈ sg_tbl := gd (i := 27) (by decide +kernel) rfl
theorem sl_28 : Cond.selects "SearchGridsModel" ⟨"SearchGridsModel", "worth", "([I)J"⟩ ⟨"SearchGridsModel", "worth", "([I)J"⟩ ∈ sg_tbl := gd (i := 28) (by decide +kernel) rfl
theorem sl_29 : Cond.selects "SearchGridsModel" ⟨"SearchGridsModel", "weight", "(I)I"⟩ ⟨"SearchGridsModel", "weight", "(I)I"⟩ ∈ sg_tbl := gd (i := 29) (by decide +kernel) rfl
theorem sl_30 : Cond.selects "SearchGridsModel" ⟨"SearchGridsModel", "missed", "([II)J"⟩ ⟨"SearchGridsModel", "missed", "([II)J"⟩ ∈ sg_tbl := gd (i := 30) (by decide +kernel) rfl
theorem sl_31 : Cond.selects "SearchGridsModel" ⟨"SearchGridsModel", "given", "([II)I"⟩ ⟨"SearchGridsModel", "given", "([II)I"⟩ ∈ sg_tbl := gd (i := 31) (by decide +kernel) rfl
theorem sl_32 : Cond.selects "SearchGridsModel" ⟨"SearchGridsModel", "use", "(I)I"⟩ ⟨"SearchGridsModel", "use", "(I)I"⟩ ∈ sg_tbl := gd (i := 32) (by decide +kernel) rfl
theorem sl_33 : Cond.selects "SearchGridsModel" ⟨"SearchGridsModel", "size", "()I"⟩ ⟨"SearchGridsModel", "size", "()I"⟩ ∈ sg_tbl := gd (i := 33) (by decide +kernel) rfl
theorem sl_34 : Cond.selects "SearchGridsModel" ⟨"SearchGridsModel", "isBetter", "(IIJ)Z"⟩ ⟨"SearchGridsModel", "isBetter", "(IIJ)Z"⟩ ∈ sg_tbl := gd (i := 34) (by decide +kernel) rfl
theorem sl_35 : Cond.selects "SearchGridsModel" ⟨"SearchGridsModel", "slot", "(I)I"⟩ ⟨"SearchGridsModel", "slot", "(I)I"⟩ ∈ sg_tbl := gd (i := 35) (by decide +kernel) rfl
theorem sl_36 : Cond.selects "SearchGridsModel" ⟨"SearchGridsModel", "all", "()J"⟩ ⟨"SearchGridsModel", "all", "()J"⟩ ∈ sg_tbl := gd (i := 36) (by decide +kernel) rfl
theorem sl_37 : Cond.selects "SearchGridsModel" ⟨"SearchGridsModel", "left", "()J"⟩ ⟨"SearchGridsModel", "left", "()J"⟩ ∈ sg_tbl := gd (i := 37) (by decide +kernel) rfl
theorem sl_38 : Cond.selects "SearchGridsModel" ⟨"SearchGridsModel", "rank", "(I)J"⟩ ⟨"SearchGridsModel", "rank", "(I)J"⟩ ∈ sg_tbl := gd (i := 38) (by decide +kernel) rfl
def sg_host : String := "SearchGrids"
def sg_fn : List (String × Nat × String × String × String) := [("SearchGrids", 70, "SearchGrids$Cell", "countOf", "[I"), ("SearchGrids", 120, "SearchGrids$Cell", "planned", "[I"), ("SearchGrids", 134, "SearchGrids$Cell", "looked", "[I"), ("SearchGrids", 218, "SearchGrids$Cell", "trial", "[I"), ("SearchGrids", 210, "SearchGrids$Cell", "gains", "[J"), ("SearchGrids", 186, "SearchGrids$Cell", "number", "I"), ("SearchGrids", 153, "SearchGrids$Cell", "squares", "I"), ("SearchGrids", 201, "SearchGrids$Cell", "scale", "I"), ("SearchGrids", 180, "SearchGrids$Cell", "standing", "J"), ("SearchGrids", 207, "SearchGrids$Looker", "use", "I"), ("SearchGrids", 204, "SearchGrids$Looker", "given", "I"), ("SearchGrids", 221, "SearchGrids$Looker", "trial", "I"), ("SearchGrids", 192, "SearchGrids$LookLog", "lookers", "[I"), ("SearchGrids", 194, "SearchGrids$LookLog", "cells", "[I"), ("SearchGrids", 196, "SearchGrids$LookLog", "hours", "[I"), ("SearchGrids", 189, "SearchGrids$LookLog", "byTold", "[I"), ("SearchGrids", 80, "SearchGrids$LookLog", "size", "I")]
def sg_mn : List (String × Nat × MethodName) := [("SearchGrids", 24, ⟨"SearchGrids$Cell", "<init>", "()V"⟩), ("SearchGrids", 31, ⟨"SearchGrids$Looker", "<init>", "()V"⟩), ("SearchGrids", 37, ⟨"SearchGrids$LookLog", "<init>", "()V"⟩), ("SearchGrids", 91, ⟨"SearchGrids$Looker", "begin", "(I)V"⟩), ("SearchGrids", 103, ⟨"SearchGrids$Looker", "takeAway", "(II)V"⟩), ("SearchGrids", 112, ⟨"SearchGrids$Cell", "reckonGains", "([I)V"⟩), ("SearchGrids", 214, ⟨"SearchGrids$Cell", "finds", "([I[I)J"⟩), ("SearchGrids", 137, ⟨"SearchGrids$LookLog", "add", "(IIIJ)I"⟩), ("SearchGrids", 141, ⟨"SearchGrids$Cell", "remains", "([I)J"⟩), ("SearchGrids", 148, ⟨"SearchGrids$Cell", "weight", "()J"⟩)]
def sg_nest : List Cond := sg_fn.map (fun q => Cond.fieldLinkNest q.1 q.2.1 q.2.2.1 q.2.2.2.1 q.2.2.2.2 sg_host) ++ sg_mn.map (fun q => Cond.methodLinkNest q.1 q.2.1 q.2.2 sg_host)
theorem sg_nest_warm {s U : State} (hW : s.WarmedH U.vm) : ∀ w ∈ sg_nest, va_Nw w s → va_Nw w U := by
  intro w hw h
  rcases List.mem_append.mp hw with hw | hw
  · obtain ⟨q, -, rfl⟩ := List.mem_map.mp hw
    exact va_Nw.warmF hW h
  · obtain ⟨q, -, rfl⟩ := List.mem_map.mp hw
    exact va_Nw.warmM hW h
theorem sg_nest_tab : ∀ w ∈ sg_nest, w.onTables = true := by
  intro w hw
  rcases List.mem_append.mp hw with hw | hw
  · obtain ⟨q, -, rfl⟩ := List.mem_map.mp hw
    rfl
  · obtain ⟨q, -, rfl⟩ := List.mem_map.mp hw
    rfl
theorem nsF {i : Nat} {a : String} {n : Nat} {b c d : String} (h : sg_fn[i]? = some (a, n, b, c, d)) : Cond.fieldLinkNest a n b c d sg_host ∈ sg_nest := List.mem_append_left _ (List.mem_map.mpr ⟨(a, n, b, c, d), List.mem_of_getElem? h, rfl⟩)
theorem nsM {i : Nat} {a : String} {n : Nat} {y : MethodName} (h : sg_mn[i]? = some (a, n, y)) : Cond.methodLinkNest a n y sg_host ∈ sg_nest := List.mem_append_right _ (List.mem_map.mpr ⟨(a, n, y), List.mem_of_getElem? h, rfl⟩)
theorem sg_nest_in : ∀ w ∈ sg_nest, w ∈ lw_tbl := by
  intro w hw
  rcases List.mem_append.mp hw with hw | hw
  · obtain ⟨q, hq, rfl⟩ := List.mem_map.mp hw
    obtain ⟨i, hi⟩ := List.getElem?_of_mem hq
    match i, hi with
    | 0, hi => cases hi; exact List.mem_of_getElem? (i := 63) (by decide +kernel)
    | 1, hi => cases hi; exact List.mem_of_getElem? (i := 65) (by decide +kernel)
    | 2, hi => cases hi; exact List.mem_of_getElem? (i := 67) (by decide +kernel)
    | 3, hi => cases hi; exact List.mem_of_getElem? (i := 69) (by decide +kernel)
    | 4, hi => cases hi; exact List.mem_of_getElem? (i := 71) (by decide +kernel)
    | 5, hi => cases hi; exact List.mem_of_getElem? (i := 73) (by decide +kernel)
    | 6, hi => cases hi; exact List.mem_of_getElem? (i := 75) (by decide +kernel)
    | 7, hi => cases hi; exact List.mem_of_getElem? (i := 77) (by decide +kernel)
    | 8, hi => cases hi; exact List.mem_of_getElem? (i := 78) (by decide +kernel)
    | 9, hi => cases hi; exact List.mem_of_getElem? (i := 110) (by decide +kernel)
    | 10, hi => cases hi; exact List.mem_of_getElem? (i := 111) (by decide +kernel)
    | 11, hi => cases hi; exact List.mem_of_getElem? (i := 112) (by decide +kernel)
    | 12, hi => cases hi; exact List.mem_of_getElem? (i := 132) (by decide +kernel)
    | 13, hi => cases hi; exact List.mem_of_getElem? (i := 134) (by decide +kernel)
    | 14, hi => cases hi; exact List.mem_of_getElem? (i := 136) (by decide +kernel)
    | 15, hi => cases hi; exact List.mem_of_getElem? (i := 139) (by decide +kernel)
    | 16, hi => cases hi; exact List.mem_of_getElem? (i := 141) (by decide +kernel)
    | i + 17, hi => simp [sg_fn] at hi
  · obtain ⟨q, hq, rfl⟩ := List.mem_map.mp hw
    obtain ⟨i, hi⟩ := List.getElem?_of_mem hq
    match i, hi with
    | 0, hi => cases hi; exact List.mem_of_getElem? (i := 58) (by decide +kernel)
    | 1, hi => cases hi; exact List.mem_of_getElem? (i := 103) (by decide +kernel)
    | 2, hi => cases hi; exact List.mem_of_getElem? (i := 127) (by decide +kernel)
    | 3, hi => cases hi; exact List.mem_of_getElem? (i := 243) (by decide +kernel)
    | 4, hi => cases hi; exact List.mem_of_getElem? (i := 256) (by decide +kernel)
    | 5, hi => cases hi; exact List.mem_of_getElem? (i := 268) (by decide +kernel)
    | 6, hi => cases hi; exact List.mem_of_getElem? (i := 312) (by decide +kernel)
    | 7, hi => cases hi; exact List.mem_of_getElem? (i := 322) (by decide +kernel)
    | 8, hi => cases hi; exact List.mem_of_getElem? (i := 330) (by decide +kernel)
    | 9, hi => cases hi; exact List.mem_of_getElem? (i := 346) (by decide +kernel)
    | i + 10, hi => simp [sg_mn] at hi
def sg_F0 : u_T := fun k => match k with
  | 0 => ("SearchGrids$Cell", "countOf", "[I", true)
  | 1 => ("SearchGrids$Cell", "planned", "[I", true)
  | 2 => ("SearchGrids$Cell", "looked", "[I", true)
  | 3 => ("SearchGrids$Cell", "trial", "[I", true)
  | 4 => ("SearchGrids$Cell", "gains", "[J", true)
  | 5 => ("SearchGrids$Cell", "number", "I", false)
  | 6 => ("SearchGrids$Cell", "squares", "I", false)
  | 7 => ("SearchGrids$Cell", "scale", "I", false)
  | _ => ("SearchGrids$Cell", "standing", "J", false)
def sg_t0 : Nat → FieldType := fun k => match k with
  | 0 => .array .int
  | 1 => .array .int
  | 2 => .array .int
  | 3 => .array .int
  | 4 => .array .long
  | 5 => .int
  | 6 => .int
  | 7 => .int
  | _ => .long
theorem sg_nm0 : ∀ a, a < 9 → ∀ b, b < 9 → a ≠ b → (sg_F0 a).2.1 ≠ (sg_F0 b).2.1 := by decide +kernel
theorem sg_ty0 : ∀ k, k < 9 → parseFieldDescriptor (sg_F0 k).2.2.1 = some (sg_t0 k) := by decide +kernel
theorem sg_in0 : ∀ w ∈ u_ws "SearchGrids$Cell" sg_F0 9, w ∈ sg_tbl := by
  intro w hw
  obtain ⟨k, hk, rfl⟩ := List.mem_map.mp hw
  have hk := List.mem_range.mp hk
  match k, hk with
  | 0, _ => exact wd_40
  | 1, _ => exact wd_42
  | 2, _ => exact wd_44
  | 3, _ => exact wd_46
  | 4, _ => exact wd_48
  | 5, _ => exact wd_50
  | 6, _ => exact wd_52
  | 7, _ => exact wd_54
  | 8, _ => exact wd_56
def sg_F1 : u_T := fun k => match k with
  | 0 => ("SearchGrids$LookLog", "lookers", "[I", true)
  | 1 => ("SearchGrids$LookLog", "cells", "[I", true)
  | 2 => ("SearchGrids$LookLog", "hours", "[I", true)
  | 3 => ("SearchGrids$LookLog", "tolds", "[J", true)
  | 4 => ("SearchGrids$LookLog", "byTold", "[I", true)
  | _ => ("SearchGrids$LookLog", "size", "I", false)
def sg_t1 : Nat → FieldType := fun k => match k with
  | 0 => .array .int
  | 1 => .array .int
  | 2 => .array .int
  | 3 => .array .long
  | 4 => .array .int
  | _ => .int
theorem sg_nm1 : ∀ a, a < 6 → ∀ b, b < 6 → a ≠ b → (sg_F1 a).2.1 ≠ (sg_F1 b).2.1 := by decide +kernel
theorem sg_ty1 : ∀ k, k < 6 → parseFieldDescriptor (sg_F1 k).2.2.1 = some (sg_t1 k) := by decide +kernel
theorem sg_in1 : ∀ w ∈ u_ws "SearchGrids$LookLog" sg_F1 6, w ∈ sg_tbl := by
  intro w hw
  obtain ⟨k, hk, rfl⟩ := List.mem_map.mp hw
  have hk := List.mem_range.mp hk
  match k, hk with
  | 0, _ => exact wd_103
  | 1, _ => exact wd_105
  | 2, _ => exact wd_107
  | 3, _ => exact wd_109
  | 4, _ => exact wd_111
  | 5, _ => exact wd_113
def sg_F2 : u_T := fun k => match k with
  | 0 => ("SearchGrids$Looker", "useless", "[Z", true)
  | 1 => ("SearchGrids$Looker", "hours", "I", false)
  | 2 => ("SearchGrids$Looker", "use", "I", false)
  | 3 => ("SearchGrids$Looker", "given", "I", false)
  | _ => ("SearchGrids$Looker", "trial", "I", false)
def sg_t2 : Nat → FieldType := fun k => match k with
  | 0 => .array .boolean
  | 1 => .int
  | 2 => .int
  | 3 => .int
  | _ => .int
theorem sg_nm2 : ∀ a, a < 5 → ∀ b, b < 5 → a ≠ b → (sg_F2 a).2.1 ≠ (sg_F2 b).2.1 := by decide +kernel
theorem sg_ty2 : ∀ k, k < 5 → parseFieldDescriptor (sg_F2 k).2.2.1 = some (sg_t2 k) := by decide +kernel
theorem sg_in2 : ∀ w ∈ u_ws "SearchGrids$Looker" sg_F2 5, w ∈ sg_tbl := by
  intro w hw
  obtain ⟨k, hk, rfl⟩ := List.mem_map.mp hw
  have hk := List.mem_range.mp hk
  match k, hk with
  | 0, _ => exact wd_74
  | 1, _ => exact wd_76
  | 2, _ => exact wd_78
  | 3, _ => exact wd_80
  | 4, _ => exact wd_82
def sg_F3 : u_T := fun k => match k with
  | 0 => ("SearchGrids", "cells", "I", true)
  | 1 => ("SearchGrids", "toldCells", "[LSearchGrids$Cell;", true)
  | 2 => ("SearchGrids", "toldCount", "I", false)
  | 3 => ("SearchGrids", "lookers", "[LSearchGrids$Looker;", true)
  | 4 => ("SearchGrids", "lookerCount", "I", false)
  | 5 => ("SearchGrids", "rates", "[I", true)
  | 6 => ("SearchGrids", "thingCount", "I", false)
  | 7 => ("SearchGrids", "looks", "LSearchGrids$LookLog;", true)
  | 8 => ("SearchGrids", "seenCell", "I", false)
  | 9 => ("SearchGrids", "stopAbove", "J", false)
  | 10 => ("SearchGrids", "stopBelow", "J", false)
  | _ => ("SearchGrids", "gone", "[Z", true)
def sg_t3 : Nat → FieldType := fun k => match k with
  | 0 => .int
  | 1 => .array (.object "SearchGrids$Cell")
  | 2 => .int
  | 3 => .array (.object "SearchGrids$Looker")
  | 4 => .int
  | 5 => .array .int
  | 6 => .int
  | 7 => .object "SearchGrids$LookLog"
  | 8 => .int
  | 9 => .long
  | 10 => .long
  | _ => .array .boolean
theorem sg_nm3 : ∀ a, a < 12 → ∀ b, b < 12 → a ≠ b → (sg_F3 a).2.1 ≠ (sg_F3 b).2.1 := by decide +kernel
theorem sg_ty3 : ∀ k, k < 12 → parseFieldDescriptor (sg_F3 k).2.2.1 = some (sg_t3 k) := by decide +kernel
theorem sg_in3 : ∀ w ∈ u_ws "SearchGrids" sg_F3 12, w ∈ sg_tbl := by
  intro w hw
  obtain ⟨k, hk, rfl⟩ := List.mem_map.mp hw
  have hk := List.mem_range.mp hk
  match k, hk with
  | 0, _ => exact wd_128
  | 1, _ => exact wd_130
  | 2, _ => exact wd_132
  | 3, _ => exact wd_134
  | 4, _ => exact wd_136
  | 5, _ => exact wd_138
  | 6, _ => exact wd_140
  | 7, _ => exact wd_142
  | 8, _ => exact wd_144
  | 9, _ => exact wd_146
  | 10, _ => exact wd_148
  | 11, _ => exact wd_150
def sg_F4 : u_T := fun k => match k with
  | 0 => ("SearchGridsModel", "cells", "I", true)
  | 1 => ("SearchGridsModel", "told", "I", false)
  | 2 => ("SearchGridsModel", "cell", "[I", true)
  | 3 => ("SearchGridsModel", "areas", "[I", true)
  | 4 => ("SearchGridsModel", "count", "[I", true)
  | 5 => ("SearchGridsModel", "things", "I", false)
  | 6 => ("SearchGridsModel", "lookers", "I", false)
  | 7 => ("SearchGridsModel", "rate", "[I", true)
  | 8 => ("SearchGridsModel", "hours", "[I", true)
  | 9 => ("SearchGridsModel", "barred", "[Z", true)
  | 10 => ("SearchGridsModel", "plan", "[I", true)
  | 11 => ("SearchGridsModel", "trial", "[I", true)
  | 12 => ("SearchGridsModel", "looked", "[I", true)
  | 13 => ("SearchGridsModel", "looks", "I", false)
  | 14 => ("SearchGridsModel", "lookLooker", "[I", true)
  | 15 => ("SearchGridsModel", "lookCell", "[I", true)
  | 16 => ("SearchGridsModel", "lookHours", "[I", true)
  | 17 => ("SearchGridsModel", "lookTold", "[J", true)
  | 18 => ("SearchGridsModel", "seenAt", "I", false)
  | 19 => ("SearchGridsModel", "above", "J", false)
  | _ => ("SearchGridsModel", "below", "J", false)
def sg_t4 : Nat → FieldType := fun k => match k with
  | 0 => .int
  | 1 => .int
  | 2 => .array .int
  | 3 => .array .int
  | 4 => .array .int
  | 5 => .int
  | 6 => .int
  | 7 => .array .int
  | 8 => .array .int
  | 9 => .array .boolean
  | 10 => .array .int
  | 11 => .array .int
  | 12 => .array .int
  | 13 => .int
  | 14 => .array .int
  | 15 => .array .int
  | 16 => .array .int
  | 17 => .array .long
  | 18 => .int
  | 19 => .long
  | _ => .long
theorem sg_nm4 : ∀ a, a < 21 → ∀ b, b < 21 → a ≠ b → (sg_F4 a).2.1 ≠ (sg_F4 b).2.1 := by decide +kernel
theorem sg_ty4 : ∀ k, k < 21 → parseFieldDescriptor (sg_F4 k).2.2.1 = some (sg_t4 k) := by decide +kernel
theorem sg_in4 : ∀ w ∈ u_ws "SearchGridsModel" sg_F4 21, w ∈ sg_tbl := by
  intro w hw
  obtain ⟨k, hk, rfl⟩ := List.mem_map.mp hw
  have hk := List.mem_range.mp hk
  match k, hk with
  | 0, _ => exact wd_399
  | 1, _ => exact wd_401
  | 2, _ => exact wd_403
  | 3, _ => exact wd_405
  | 4, _ => exact wd_407
  | 5, _ => exact wd_409
  | 6, _ => exact wd_411
  | 7, _ => exact wd_413
  | 8, _ => exact wd_415
  | 9, _ => exact wd_417
  | 10, _ => exact wd_419
  | 11, _ => exact wd_421
  | 12, _ => exact wd_423
  | 13, _ => exact wd_425
  | 14, _ => exact wd_427
  | 15, _ => exact wd_429
  | 16, _ => exact wd_431
  | 17, _ => exact wd_433
  | 18, _ => exact wd_435
  | 19, _ => exact wd_437
  | 20, _ => exact wd_439
  | k + 21, h => exact absurd h (by omega)
def sg_cl : List vw_C := [("SearchGrids$Cell", sg_F0, 9), ("SearchGrids$LookLog", sg_F1, 6), ("SearchGrids$Looker", sg_F2, 5), ("SearchGrids", sg_F3, 12), ("SearchGridsModel", sg_F4, 21)]
def sg_ft (c k : Nat) : FieldType := match c with
  | 0 => sg_t0 k
  | 1 => sg_t1 k
  | 2 => sg_t2 k
  | 3 => sg_t3 k
  | _ => sg_t4 k
theorem sg_cl_ok : ∀ (c : Nat) (r : vw_C), sg_cl[c]? = some r → (∀ w ∈ u_ws r.1 r.2.1 r.2.2, w ∈ sg_tbl) ∧ (∀ k, k < r.2.2 → parseFieldDescriptor (r.2.1 k).2.2.1 = some (sg_ft c k)) ∧ (∀ a, a < r.2.2 → ∀ b, b < r.2.2 → a ≠ b → (r.2.1 a).2.1 ≠ (r.2.1 b).2.1) := by
  intro c r h
  match c, h with
  | 0, h => cases h; exact ⟨sg_in0, sg_ty0, sg_nm0⟩
  | 1, h => cases h; exact ⟨sg_in1, sg_ty1, sg_nm1⟩
  | 2, h => cases h; exact ⟨sg_in2, sg_ty2, sg_nm2⟩
  | 3, h => cases h; exact ⟨sg_in3, sg_ty3, sg_nm3⟩
  | 4, h => cases h; exact ⟨sg_in4, sg_ty4, sg_nm4⟩
  | c + 5, h => simp [sg_cl] at h
def sg_na : Nat := 5
def sg_at (t : Nat) : FieldType := match t with
  | 0 => .int
  | 1 => .long
  | 2 => .boolean
  | 3 => .object "SearchGrids$Cell"
  | _ => .object "SearchGrids$Looker"
def sg_refs : List String := ["SearchGrids$Cell", "SearchGrids$Looker"]
