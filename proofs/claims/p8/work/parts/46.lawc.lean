section LAWROWS
variable {g : Gx} {M M1 : Md} {R : Room} {Z : Zx} {kc ks : Nat} {h : Hp} {pc : Nat} {L : List (Option Value)} {st : List Value} {n x0 y0 : Nat}
theorem k_land {x y : Int64} (hf : md_f M pc = some (.land, 1, n, x0, y0)) (k : Ok g M R Z kc ks h n L (.long (x &&& y) :: st)) : Ok g M R Z kc ks h pc L (.long y :: .long x :: st) := by
  intro p e s m args below meth c H locs ls C hW hF hl
  obtain ⟨hd, hn, ho⟩ := md_dec C.2.2.2.2.2.2.2.2.2.2 hf
  subst hn
  exact lv_land C.1 C.2.1 hd (k p e s m args below meth c H locs ls C hW hF hl)
theorem k_lor {x y : Int64} (hf : md_f M pc = some (.lor, 1, n, x0, y0)) (k : Ok g M R Z kc ks h n L (.long (x ||| y) :: st)) : Ok g M R Z kc ks h pc L (.long y :: .long x :: st) := by
  intro p e s m args below meth c H locs ls C hW hF hl
  obtain ⟨hd, hn, ho⟩ := md_dec C.2.2.2.2.2.2.2.2.2.2 hf
  subst hn
  exact lv_lor C.1 C.2.1 hd (k p e s m args below meth c H locs ls C hW hF hl)
theorem k_lshl {x : Int64} {y : Int32} (hf : md_f M pc = some (.lshl, 1, n, x0, y0)) (k : Ok g M R Z kc ks h n L (.long (x <<< (y.toInt64 &&& 63)) :: st)) : Ok g M R Z kc ks h pc L (.int y :: .long x :: st) := by
  intro p e s m args below meth c H locs ls C hW hF hl
  obtain ⟨hd, hn, ho⟩ := md_dec C.2.2.2.2.2.2.2.2.2.2 hf
  subst hn
  exact lv_lshl C.1 C.2.1 hd rfl (k p e s m args below meth c H locs ls C hW hF hl)
theorem rm_room {maxL : Nat} (h : maxL ≤ 29) : rm_ok room_1 100 maxL := by
  refine ⟨by decide, ?_⟩
  show _ ≤ 84000
  omega
theorem k_wV0 {idx : Nat} {b ci : Nat} (hf : md_f M pc = some (.invokevirtual idx, 3, n, x0, y0)) (hw : cl_V M1 0) (hk : Cond.methodLink (md_y M).cls idx (md_y M1) ∈ sg_tbl) (ho : isO g h b ci) (hc : sg_C ci = (md_y M1).cls) (hm : md_n M1 ≤ 29) (hst : (st.map fun v => v.category).sum ≤ 8) (hkc : kc ≤ room_1.cells) (hks : ks ≤ room_1.slots)
    (kk : Ct g M1 100 0 0 (.ref b :: []) h (fun r h1 => Ok g M room_1 Z kc ks h1 n L (psh r st))) : Ok g M room_1 Z kc ks h pc L (.ref b :: st) := k_callV (As := []) (mc := 0) (ms := 0) hf rfl rfl hst hkc hks (rm_room hm) hk hw ho hc kk
theorem k_wV1 {idx : Nat} {v0 : Value} {b ci : Nat} (hf : md_f M pc = some (.invokevirtual idx, 3, n, x0, y0)) (hw : cl_V M1 1) (hk : Cond.methodLink (md_y M).cls idx (md_y M1) ∈ sg_tbl) (ho : isO g h b ci) (hc : sg_C ci = (md_y M1).cls) (hm : md_n M1 ≤ 29) (hst : (st.map fun v => v.category).sum ≤ 8) (hkc : kc ≤ room_1.cells) (hks : ks ≤ room_1.slots)
    (kk : Ct g M1 100 0 0 (.ref b :: [v0]) h (fun r h1 => Ok g M room_1 Z kc ks h1 n L (psh r st))) : Ok g M room_1 Z kc ks h pc L (v0 :: .ref b :: st) := k_callV (As := [v0]) (mc := 0) (ms := 0) hf rfl rfl hst hkc hks (rm_room hm) hk hw ho hc kk
theorem k_wV2 {idx : Nat} {v0 v1 : Value} {b ci : Nat} (hf : md_f M pc = some (.invokevirtual idx, 3, n, x0, y0)) (hw : cl_V M1 2) (hk : Cond.methodLink (md_y M).cls idx (md_y M1) ∈ sg_tbl) (ho : isO g h b ci) (hc : sg_C ci = (md_y M1).cls) (hm : md_n M1 ≤ 29) (hst : (st.map fun v => v.category).sum ≤ 8) (hkc : kc ≤ room_1.cells) (hks : ks ≤ room_1.slots)
    (kk : Ct g M1 100 0 0 (.ref b :: [v0, v1]) h (fun r h1 => Ok g M room_1 Z kc ks h1 n L (psh r st))) : Ok g M room_1 Z kc ks h pc L (v1 :: v0 :: .ref b :: st) := k_callV (As := [v0, v1]) (mc := 0) (ms := 0) hf rfl rfl hst hkc hks (rm_room hm) hk hw ho hc kk
theorem k_wV3 {idx : Nat} {v0 v1 v2 : Value} {b ci : Nat} (hf : md_f M pc = some (.invokevirtual idx, 3, n, x0, y0)) (hw : cl_V M1 3) (hk : Cond.methodLink (md_y M).cls idx (md_y M1) ∈ sg_tbl) (ho : isO g h b ci) (hc : sg_C ci = (md_y M1).cls) (hm : md_n M1 ≤ 29) (hst : (st.map fun v => v.category).sum ≤ 8) (hkc : kc ≤ room_1.cells) (hks : ks ≤ room_1.slots)
    (kk : Ct g M1 100 0 0 (.ref b :: [v0, v1, v2]) h (fun r h1 => Ok g M room_1 Z kc ks h1 n L (psh r st))) : Ok g M room_1 Z kc ks h pc L (v2 :: v1 :: v0 :: .ref b :: st) := k_callV (As := [v0, v1, v2]) (mc := 0) (ms := 0) hf rfl rfl hst hkc hks (rm_room hm) hk hw ho hc kk
theorem k_wV4 {idx : Nat} {v0 v1 v2 v3 : Value} {b ci : Nat} (hf : md_f M pc = some (.invokevirtual idx, 3, n, x0, y0)) (hw : cl_V M1 4) (hk : Cond.methodLink (md_y M).cls idx (md_y M1) ∈ sg_tbl) (ho : isO g h b ci) (hc : sg_C ci = (md_y M1).cls) (hm : md_n M1 ≤ 29) (hst : (st.map fun v => v.category).sum ≤ 8) (hkc : kc ≤ room_1.cells) (hks : ks ≤ room_1.slots)
    (kk : Ct g M1 100 0 0 (.ref b :: [v0, v1, v2, v3]) h (fun r h1 => Ok g M room_1 Z kc ks h1 n L (psh r st))) : Ok g M room_1 Z kc ks h pc L (v3 :: v2 :: v1 :: v0 :: .ref b :: st) := k_callV (As := [v0, v1, v2, v3]) (mc := 0) (ms := 0) hf rfl rfl hst hkc hks (rm_room hm) hk hw ho hc kk
end LAWROWS
/-- both pictures of one state -/
def LI (g : Gx) (h : Hp) (o i : Nat) : Prop := ∃ p s, PC g h o p s ∧ PR g h (o + 259) s ∧ Inv s ∧ (i = 1 → s_seen s = none)
theorem LI_nx {g : Gx} {h : Hp} {o i : Nat} (H : LI g h o i) : LI g h o (i + 7) := by
  obtain ⟨p, s, P, R0, I, -⟩ := H
  exact ⟨p, s, P, R0, I, fun z => absurd z (by omega)⟩
theorem od_eq {s : St} (h : s_seen s = none) (c q : Int32) : odC s c q = odR s c q := by unfold odC odR; rw [h]
theorem ap_R {o : Nat} : ∀ a, inR (o + 259) a → ¬ inC o a := fun a h1 h2 => by unfold inR at h1; unfold inC at h2; omega
theorem ap_C {o : Nat} : ∀ a, inC o a → ¬ inR (o + 259) a := fun a h1 h2 => ap_R a h2 h1
theorem lwc_0 {g : Gx} {Z : Zx} {h : Hp} {o i : Nat} (hN : gx_L g ≤ 3585) (hL : gx_L g < 2147483648) (hi1 : 1 ≤ i) (hi : i + 7 ≤ gx_L g) (H : LI g h o i) (kk : ∀ h1, LI g h1 o (i + 7) → Ok g M_W0 room_1 Z 273 4707 h1 1082 [some (.ref (gx_b g)), some (.ref o), some (.ref (o + 259)), some (.int (nI i))] []) : Ok g M_W0 room_1 Z 273 4707 h 144 [some (.ref (gx_b g)), some (.ref o), some (.ref (o + 259)), some (.int (nI i))] [] := by
  obtain ⟨p, s, P, R0, I, hs1⟩ := H
  refine k_aload_n rfl rfl ?_
  refine k_aload_n rfl rfl ?_
  refine k_iload_n rfl rfl ?_
  refine k_iconst (v := nI 1) rfl (by decide) ?_
  refine k_iaddN rfl ?_
  refine k_sld rfl rfl (by omega) hL ?_
  refine k_aload_n rfl rfl ?_
  refine k_iload_n rfl rfl ?_
  refine k_iconst (v := nI 2) rfl (by decide) ?_
  refine k_iaddN rfl ?_
  refine k_sld rfl rfl (by omega) hL ?_
  refine k_i2l rfl ?_
  refine k_bipush (v := nI 32) rfl (by decide) ?_
  refine k_lshl rfl ?_
  refine k_aload_n rfl rfl ?_
  refine k_iload_n rfl rfl ?_
  refine k_iconst (v := nI 3) rfl (by decide) ?_
  refine k_iaddN rfl ?_
  refine k_sld rfl rfl (by omega) hL ?_
  refine k_i2l rfl ?_
  refine k_ldc2 rfl wd_611 ?_
  refine k_land rfl ?_
  refine k_lor rfl ?_
  refine k_wV2 rfl cw_S_counts wd_153 (sc_o (pc_S P)) rfl (by decide) (Nat.le_of_ble_eq_true rfl) (Nat.le_of_ble_eq_true rfl) (Nat.le_of_ble_eq_true rfl) ?_
  refine c_S_counts P I _ _ (fun h1 p1 x1 P1 => ?_)
  have R1 := pr_fr R0 x1 ap_R
  refine k_pop rfl rfl ?_
  refine k_aload_n rfl rfl ?_
  refine k_aload_n rfl rfl ?_
  refine k_iload_n rfl rfl ?_
  refine k_iconst (v := nI 1) rfl (by decide) ?_
  refine k_iaddN rfl ?_
  refine k_sld rfl rfl (by omega) hL ?_
  refine k_aload_n rfl rfl ?_
  refine k_iload_n rfl rfl ?_
  refine k_iconst (v := nI 2) rfl (by decide) ?_
  refine k_iaddN rfl ?_
  refine k_sld rfl rfl (by omega) hL ?_
  refine k_i2l rfl ?_
  refine k_bipush (v := nI 32) rfl (by decide) ?_
  refine k_lshl rfl ?_
  refine k_aload_n rfl rfl ?_
  refine k_iload_n rfl rfl ?_
  refine k_iconst (v := nI 3) rfl (by decide) ?_
  refine k_iaddN rfl ?_
  refine k_sld rfl rfl (by omega) hL ?_
  refine k_i2l rfl ?_
  refine k_ldc2 rfl wd_611 ?_
  refine k_land rfl ?_
  refine k_lor rfl ?_
  refine k_wV2 rfl cw_R_counts wd_442 (sr_o (pr_S R1)) rfl (by decide) (Nat.le_of_ble_eq_true rfl) (Nat.le_of_ble_eq_true rfl) (Nat.le_of_ble_eq_true rfl) ?_
  refine c_R_counts R1 I _ _ (fun h2 x2 R2 => ?_)
  have P2 := pc_fr P1 x2 ap_C
  refine k_pop rfl rfl ?_
  refine k_goto rfl ?_
  exact kk h2 ⟨p1, _, P2, R2, Inv_cu I _ _ _, fun z => absurd z (by omega)⟩
theorem lwc_1 {g : Gx} {Z : Zx} {h : Hp} {o i : Nat} (hN : gx_L g ≤ 3585) (hL : gx_L g < 2147483648) (hi1 : 1 ≤ i) (hi : i + 7 ≤ gx_L g) (H : LI g h o i) (kk : ∀ h1, LI g h1 o (i + 7) → Ok g M_W1 room_1 Z 273 4707 h1 1082 [some (.ref (gx_b g)), some (.ref o), some (.ref (o + 259)), some (.int (nI i))] []) : Ok g M_W1 room_1 Z 273 4707 h 207 [some (.ref (gx_b g)), some (.ref o), some (.ref (o + 259)), some (.int (nI i))] [] := by
  obtain ⟨p, s, P, R0, I, hs1⟩ := H
  refine k_aload_n rfl rfl ?_
  refine k_aload_n rfl rfl ?_
  refine k_iload_n rfl rfl ?_
  refine k_iconst (v := nI 1) rfl (by decide) ?_
  refine k_iaddN rfl ?_
  refine k_sld rfl rfl (by omega) hL ?_
  refine k_aload_n rfl rfl ?_
  refine k_iload_n rfl rfl ?_
  refine k_iconst (v := nI 2) rfl (by decide) ?_
  refine k_iaddN rfl ?_
  refine k_sld rfl rfl (by omega) hL ?_
  refine k_wV2 rfl cw_S_odds wd_181 (sc_o (pc_S P)) rfl (by decide) (Nat.le_of_ble_eq_true rfl) (Nat.le_of_ble_eq_true rfl) (Nat.le_of_ble_eq_true rfl) ?_
  refine c_S_odds P I _ _ ?_
  have R1 := R0
  have P1 := P
  refine k_pop2_2 rfl rfl ?_
  refine k_aload_n rfl rfl ?_
  refine k_aload_n rfl rfl ?_
  refine k_iload_n rfl rfl ?_
  refine k_iconst (v := nI 1) rfl (by decide) ?_
  refine k_iaddN rfl ?_
  refine k_sld rfl rfl (by omega) hL ?_
  refine k_aload_n rfl rfl ?_
  refine k_iload_n rfl rfl ?_
  refine k_iconst (v := nI 2) rfl (by decide) ?_
  refine k_iaddN rfl ?_
  refine k_sld rfl rfl (by omega) hL ?_
  refine k_wV2 rfl cw_R_odds wd_548 (sr_o (pr_S R1)) rfl (by decide) (Nat.le_of_ble_eq_true rfl) (Nat.le_of_ble_eq_true rfl) (Nat.le_of_ble_eq_true rfl) ?_
  refine c_R_odds R1 I _ _ ?_
  refine k_pop2_2 rfl rfl ?_
  refine k_goto rfl ?_
  exact kk h ⟨p, s, P, R0, I, fun z => absurd z (by omega)⟩
theorem lwc_2 {g : Gx} {Z : Zx} {h : Hp} {o i : Nat} (hN : gx_L g ≤ 3585) (hL : gx_L g < 2147483648) (hi1 : 1 ≤ i) (hi : i + 7 ≤ gx_L g) (H : LI g h o i) (kk : ∀ h1, LI g h1 o (i + 7) → Ok g M_W2 room_1 Z 273 4707 h1 1082 [some (.ref (gx_b g)), some (.ref o), some (.ref (o + 259)), some (.int (nI i))] []) : Ok g M_W2 room_1 Z 273 4707 h 240 [some (.ref (gx_b g)), some (.ref o), some (.ref (o + 259)), some (.int (nI i))] [] := by
  obtain ⟨p, s, P, R0, I, hs1⟩ := H
  refine k_aload_n rfl rfl ?_
  refine k_aload_n rfl rfl ?_
  refine k_iload_n rfl rfl ?_
  refine k_iconst (v := nI 1) rfl (by decide) ?_
  refine k_iaddN rfl ?_
  refine k_sld rfl rfl (by omega) hL ?_
  refine k_i2l rfl ?_
  refine k_bipush (v := nI 32) rfl (by decide) ?_
  refine k_lshl rfl ?_
  refine k_aload_n rfl rfl ?_
  refine k_iload_n rfl rfl ?_
  refine k_iconst (v := nI 2) rfl (by decide) ?_
  refine k_iaddN rfl ?_
  refine k_sld rfl rfl (by omega) hL ?_
  refine k_i2l rfl ?_
  refine k_ldc2 rfl wd_611 ?_
  refine k_land rfl ?_
  refine k_lor rfl ?_
  refine k_aload_n rfl rfl ?_
  refine k_iload_n rfl rfl ?_
  refine k_iconst (v := nI 3) rfl (by decide) ?_
  refine k_iaddN rfl ?_
  refine k_sld rfl rfl (by omega) hL ?_
  refine k_i2l rfl ?_
  refine k_bipush (v := nI 32) rfl (by decide) ?_
  refine k_lshl rfl ?_
  refine k_aload_n rfl rfl ?_
  refine k_iload_n rfl rfl ?_
  refine k_iconst (v := nI 4) rfl (by decide) ?_
  refine k_iaddN rfl ?_
  refine k_sld rfl rfl (by omega) hL ?_
  refine k_i2l rfl ?_
  refine k_ldc2 rfl wd_611 ?_
  refine k_land rfl ?_
  refine k_lor rfl ?_
  refine k_aload_n rfl rfl ?_
  refine k_iload_n rfl rfl ?_
  refine k_iconst (v := nI 5) rfl (by decide) ?_
  refine k_iaddN rfl ?_
  refine k_sld rfl rfl (by omega) hL ?_
  refine k_wV3 rfl cw_S_looker wd_199 (sc_o (pc_S P)) rfl (by decide) (Nat.le_of_ble_eq_true rfl) (Nat.le_of_ble_eq_true rfl) (Nat.le_of_ble_eq_true rfl) ?_
  refine c_S_looker P I _ _ _ (fun h1 p1 x1 P1 => ?_)
  have R1 := pr_fr R0 x1 ap_R
  refine k_pop rfl rfl ?_
  refine k_aload_n rfl rfl ?_
  refine k_aload_n rfl rfl ?_
  refine k_iload_n rfl rfl ?_
  refine k_iconst (v := nI 1) rfl (by decide) ?_
  refine k_iaddN rfl ?_
  refine k_sld rfl rfl (by omega) hL ?_
  refine k_i2l rfl ?_
  refine k_bipush (v := nI 32) rfl (by decide) ?_
  refine k_lshl rfl ?_
  refine k_aload_n rfl rfl ?_
  refine k_iload_n rfl rfl ?_
  refine k_iconst (v := nI 2) rfl (by decide) ?_
  refine k_iaddN rfl ?_
  refine k_sld rfl rfl (by omega) hL ?_
  refine k_i2l rfl ?_
  refine k_ldc2 rfl wd_611 ?_
  refine k_land rfl ?_
  refine k_lor rfl ?_
  refine k_aload_n rfl rfl ?_
  refine k_iload_n rfl rfl ?_
  refine k_iconst (v := nI 3) rfl (by decide) ?_
  refine k_iaddN rfl ?_
  refine k_sld rfl rfl (by omega) hL ?_
  refine k_i2l rfl ?_
  refine k_bipush (v := nI 32) rfl (by decide) ?_
  refine k_lshl rfl ?_
  refine k_aload_n rfl rfl ?_
  refine k_iload_n rfl rfl ?_
  refine k_iconst (v := nI 4) rfl (by decide) ?_
  refine k_iaddN rfl ?_
  refine k_sld rfl rfl (by omega) hL ?_
  refine k_i2l rfl ?_
  refine k_ldc2 rfl wd_611 ?_
  refine k_land rfl ?_
  refine k_lor rfl ?_
  refine k_aload_n rfl rfl ?_
  refine k_iload_n rfl rfl ?_
  refine k_iconst (v := nI 5) rfl (by decide) ?_
  refine k_iaddN rfl ?_
  refine k_sld rfl rfl (by omega) hL ?_
  refine k_wV3 rfl cw_R_looker wd_472 (sr_o (pr_S R1)) rfl (by decide) (Nat.le_of_ble_eq_true rfl) (Nat.le_of_ble_eq_true rfl) (Nat.le_of_ble_eq_true rfl) ?_
  refine c_R_looker R1 I _ _ _ (fun h2 x2 R2 => ?_)
  have P2 := pc_fr P1 x2 ap_C
  refine k_pop rfl rfl ?_
  refine k_goto rfl ?_
  exact kk h2 ⟨p1, _, P2, R2, Inv_lr I _ _ _, fun z => absurd z (by omega)⟩
theorem lwc_3 {g : Gx} {Z : Zx} {h : Hp} {o i : Nat} (hN : gx_L g ≤ 3585) (hL : gx_L g < 2147483648) (hi1 : 1 ≤ i) (hi : i + 7 ≤ gx_L g) (H : LI g h o i) (kk : ∀ h1, LI g h1 o (i + 7) → Ok g M_W3 room_1 Z 273 4707 h1 1082 [some (.ref (gx_b g)), some (.ref o), some (.ref (o + 259)), some (.int (nI i))] []) : Ok g M_W3 room_1 Z 273 4707 h 343 [some (.ref (gx_b g)), some (.ref o), some (.ref (o + 259)), some (.int (nI i))] [] := by
  obtain ⟨p, s, P, R0, I, hs1⟩ := H
  refine k_aload_n rfl rfl ?_
  refine k_aload_n rfl rfl ?_
  refine k_iload_n rfl rfl ?_
  refine k_iconst (v := nI 1) rfl (by decide) ?_
  refine k_iaddN rfl ?_
  refine k_sld rfl rfl (by omega) hL ?_
  refine k_aload_n rfl rfl ?_
  refine k_iload_n rfl rfl ?_
  refine k_iconst (v := nI 2) rfl (by decide) ?_
  refine k_iaddN rfl ?_
  refine k_sld rfl rfl (by omega) hL ?_
  refine k_wV2 rfl cw_S_bar wd_208 (sc_o (pc_S P)) rfl (by decide) (Nat.le_of_ble_eq_true rfl) (Nat.le_of_ble_eq_true rfl) (Nat.le_of_ble_eq_true rfl) ?_
  refine c_S_bar P I _ _ (fun h1 p1 x1 P1 => ?_)
  have R1 := pr_fr R0 x1 ap_R
  refine k_pop rfl rfl ?_
  refine k_aload_n rfl rfl ?_
  refine k_aload_n rfl rfl ?_
  refine k_iload_n rfl rfl ?_
  refine k_iconst (v := nI 1) rfl (by decide) ?_
  refine k_iaddN rfl ?_
  refine k_sld rfl rfl (by omega) hL ?_
  refine k_aload_n rfl rfl ?_
  refine k_iload_n rfl rfl ?_
  refine k_iconst (v := nI 2) rfl (by decide) ?_
  refine k_iaddN rfl ?_
  refine k_sld rfl rfl (by omega) hL ?_
  refine k_wV2 rfl cw_R_bar wd_476 (sr_o (pr_S R1)) rfl (by decide) (Nat.le_of_ble_eq_true rfl) (Nat.le_of_ble_eq_true rfl) (Nat.le_of_ble_eq_true rfl) ?_
  refine c_R_bar R1 I _ _ (fun h2 x2 R2 => ?_)
  have P2 := pc_fr P1 x2 ap_C
  refine k_pop rfl rfl ?_
  refine k_goto rfl ?_
  exact kk h2 ⟨p1, _, P2, R2, Inv_br I _ _, fun z => absurd z (by omega)⟩
theorem lwc_4 {g : Gx} {Z : Zx} {h : Hp} {o i : Nat} (hN : gx_L g ≤ 3585) (hL : gx_L g < 2147483648) (hi1 : 1 ≤ i) (hi : i + 7 ≤ gx_L g) (H : LI g h o i) (kk : ∀ h1, LI g h1 o (i + 7) → Ok g M_W4 room_1 Z 273 4707 h1 1082 [some (.ref (gx_b g)), some (.ref o), some (.ref (o + 259)), some (.int (nI i))] []) : Ok g M_W4 room_1 Z 273 4707 h 376 [some (.ref (gx_b g)), some (.ref o), some (.ref (o + 259)), some (.int (nI i))] [] := by
  obtain ⟨p, s, P, R0, I, hs1⟩ := H
  refine k_aload_n rfl rfl ?_
  refine k_aload_n rfl rfl ?_
  refine k_iload_n rfl rfl ?_
  refine k_iconst (v := nI 1) rfl (by decide) ?_
  refine k_iaddN rfl ?_
  refine k_sld rfl rfl (by omega) hL ?_
  refine k_wV1 rfl cw_S_share wd_224 (sc_o (pc_S P)) rfl (by decide) (Nat.le_of_ble_eq_true rfl) (Nat.le_of_ble_eq_true rfl) (Nat.le_of_ble_eq_true rfl) ?_
  refine c_S_share P I _ (fun h1 p1 x1 P1 => ?_)
  have R1 := pr_fr R0 x1 ap_R
  refine k_pop rfl rfl ?_
  refine k_aload_n rfl rfl ?_
  refine k_aload_n rfl rfl ?_
  refine k_iload_n rfl rfl ?_
  refine k_iconst (v := nI 1) rfl (by decide) ?_
  refine k_iaddN rfl ?_
  refine k_sld rfl rfl (by omega) hL ?_
  refine k_wV1 rfl cw_R_share wd_503 (sr_o (pr_S R1)) rfl (by decide) (Nat.le_of_ble_eq_true rfl) (Nat.le_of_ble_eq_true rfl) (Nat.le_of_ble_eq_true rfl) ?_
  refine c_R_share R1 I _ (fun h2 x2 R2 => ?_)
  have P2 := pc_fr P1 x2 ap_C
  refine k_pop rfl rfl ?_
  refine k_goto rfl ?_
  exact kk h2 ⟨p1, _, P2, R2, Inv_sh I _, fun z => absurd z (by omega)⟩
theorem lwc_5 {g : Gx} {Z : Zx} {h : Hp} {o i : Nat} (hN : gx_L g ≤ 3585) (hL : gx_L g < 2147483648) (hi1 : 1 ≤ i) (hi : i + 7 ≤ gx_L g) (H : LI g h o i) (kk : ∀ h1, LI g h1 o (i + 7) → Ok g M_W5 room_1 Z 273 4707 h1 1082 [some (.ref (gx_b g)), some (.ref o), some (.ref (o + 259)), some (.int (nI i))] []) : Ok g M_W5 room_1 Z 273 4707 h 399 [some (.ref (gx_b g)), some (.ref o), some (.ref (o + 259)), some (.int (nI i))] [] := by
  obtain ⟨p, s, P, R0, I, hs1⟩ := H
  refine k_aload_n rfl rfl ?_
  refine k_aload_n rfl rfl ?_
  refine k_iload_n rfl rfl ?_
  refine k_iconst (v := nI 1) rfl (by decide) ?_
  refine k_iaddN rfl ?_
  refine k_sld rfl rfl (by omega) hL ?_
  refine k_aload_n rfl rfl ?_
  refine k_iload_n rfl rfl ?_
  refine k_iconst (v := nI 2) rfl (by decide) ?_
  refine k_iaddN rfl ?_
  refine k_sld rfl rfl (by omega) hL ?_
  refine k_wV2 rfl cw_S_of wd_257 (sc_o (pc_S P)) rfl (by decide) (Nat.le_of_ble_eq_true rfl) (Nat.le_of_ble_eq_true rfl) (Nat.le_of_ble_eq_true rfl) ?_
  refine c_S_of P I _ _ ?_
  have R1 := R0
  have P1 := P
  refine k_pop rfl rfl ?_
  refine k_aload_n rfl rfl ?_
  refine k_aload_n rfl rfl ?_
  refine k_iload_n rfl rfl ?_
  refine k_iconst (v := nI 1) rfl (by decide) ?_
  refine k_iaddN rfl ?_
  refine k_sld rfl rfl (by omega) hL ?_
  refine k_aload_n rfl rfl ?_
  refine k_iload_n rfl rfl ?_
  refine k_iconst (v := nI 2) rfl (by decide) ?_
  refine k_iaddN rfl ?_
  refine k_sld rfl rfl (by omega) hL ?_
  refine k_wV2 rfl cw_R_of wd_532 (sr_o (pr_S R1)) rfl (by decide) (Nat.le_of_ble_eq_true rfl) (Nat.le_of_ble_eq_true rfl) (Nat.le_of_ble_eq_true rfl) ?_
  refine c_R_of R1 I _ _ ?_
  refine k_pop rfl rfl ?_
  refine k_goto rfl ?_
  exact kk h ⟨p, s, P, R0, I, fun z => absurd z (by omega)⟩
theorem lwc_6 {g : Gx} {Z : Zx} {h : Hp} {o i : Nat} (hN : gx_L g ≤ 3585) (hL : gx_L g < 2147483648) (hi1 : 1 ≤ i) (hi : i + 7 ≤ gx_L g) (H : LI g h o i) (kk : ∀ h1, LI g h1 o (i + 7) → Ok g M_W6 room_1 Z 273 4707 h1 1082 [some (.ref (gx_b g)), some (.ref o), some (.ref (o + 259)), some (.int (nI i))] []) : Ok g M_W6 room_1 Z 273 4707 h 432 [some (.ref (gx_b g)), some (.ref o), some (.ref (o + 259)), some (.int (nI i))] [] := by
  obtain ⟨p, s, P, R0, I, hs1⟩ := H
  refine k_aload_n rfl rfl ?_
  refine k_wV0 rfl cw_S_tried wd_261 (sc_o (pc_S P)) rfl (by decide) (Nat.le_of_ble_eq_true rfl) (Nat.le_of_ble_eq_true rfl) (Nat.le_of_ble_eq_true rfl) ?_
  refine c_S_tried P I (fun h1 b1 x1 P1 t1 => ?_)
  have R1 := pr_fr R0 x1 ap_R
  refine k_aload_n rfl rfl ?_
  refine k_wV0 rfl cw_R_tried wd_536 (sr_o (pr_S R1)) rfl (by decide) (Nat.le_of_ble_eq_true rfl) (Nat.le_of_ble_eq_true rfl) (Nat.le_of_ble_eq_true rfl) ?_
  refine c_R_tried R1 I (fun h2 b2 x2 R2 t2 => ?_)
  have P2 := pc_fr P1 x2 ap_C
  have tb : b1 = b2 := by
    cases b1 <;> cases b2 <;> first | rfl | (exact absurd (t1.mpr (t2.mp rfl)) (by decide)) | (exact absurd (t2.mpr (t1.mp rfl)) (by decide))
  refine k_icmp_eq rfl (fun c440 => ?_) (fun c440 => ?_)
  · exact kk h2 ⟨p, s, P2, R2, I, fun z => absurd z (by omega)⟩
  · exact absurd (by rw [tb]) c440
theorem lwc_7 {g : Gx} {Z : Zx} {h : Hp} {o i : Nat} (hN : gx_L g ≤ 3585) (hL : gx_L g < 2147483648) (hi1 : 1 ≤ i) (hi : i + 7 ≤ gx_L g) (H : LI g h o i) (kk : ∀ h1, LI g h1 o (i + 7) → Ok g M_W7 room_1 Z 273 4707 h1 1082 [some (.ref (gx_b g)), some (.ref o), some (.ref (o + 259)), some (.int (nI i))] []) : Ok g M_W7 room_1 Z 273 4707 h 445 [some (.ref (gx_b g)), some (.ref o), some (.ref (o + 259)), some (.int (nI i))] [] := by
  obtain ⟨p, s, P, R0, I, hs1⟩ := H
  refine k_aload_n rfl rfl ?_
  refine k_aload_n rfl rfl ?_
  refine k_iload_n rfl rfl ?_
  refine k_iconst (v := nI 1) rfl (by decide) ?_
  refine k_iaddN rfl ?_
  refine k_sld rfl rfl (by omega) hL ?_
  refine k_aload_n rfl rfl ?_
  refine k_iload_n rfl rfl ?_
  refine k_iconst (v := nI 2) rfl (by decide) ?_
  refine k_iaddN rfl ?_
  refine k_sld rfl rfl (by omega) hL ?_
  refine k_aload_n rfl rfl ?_
  refine k_iload_n rfl rfl ?_
  refine k_iconst (v := nI 3) rfl (by decide) ?_
  refine k_iaddN rfl ?_
  refine k_sld rfl rfl (by omega) hL ?_
  refine k_i2l rfl ?_
  refine k_bipush (v := nI 32) rfl (by decide) ?_
  refine k_lshl rfl ?_
  refine k_aload_n rfl rfl ?_
  refine k_iload_n rfl rfl ?_
  refine k_iconst (v := nI 4) rfl (by decide) ?_
  refine k_iaddN rfl ?_
  refine k_sld rfl rfl (by omega) hL ?_
  refine k_i2l rfl ?_
  refine k_ldc2 rfl wd_611 ?_
  refine k_land rfl ?_
  refine k_lor rfl ?_
  refine k_aload_n rfl rfl ?_
  refine k_iload_n rfl rfl ?_
  refine k_iconst (v := nI 5) rfl (by decide) ?_
  refine k_iaddN rfl ?_
  refine k_sld rfl rfl (by omega) hL ?_
  refine k_i2l rfl ?_
  refine k_bipush (v := nI 32) rfl (by decide) ?_
  refine k_lshl rfl ?_
  refine k_aload_n rfl rfl ?_
  refine k_iload_n rfl rfl ?_
  refine k_bipush (v := nI 6) rfl (by decide) ?_
  refine k_iaddN rfl ?_
  refine k_sld rfl rfl (by omega) hL ?_
  refine k_i2l rfl ?_
  refine k_ldc2 rfl wd_611 ?_
  refine k_land rfl ?_
  refine k_lor rfl ?_
  refine k_wV4 rfl cw_S_look wd_279 (sc_o (pc_S P)) rfl (by decide) (Nat.le_of_ble_eq_true rfl) (Nat.le_of_ble_eq_true rfl) (Nat.le_of_ble_eq_true rfl) ?_
  refine c_S_look P I _ _ _ _ (fun h1 p1 x1 P1 => ?_)
  have R1 := pr_fr R0 x1 ap_R
  refine k_pop rfl rfl ?_
  refine k_aload_n rfl rfl ?_
  refine k_aload_n rfl rfl ?_
  refine k_iload_n rfl rfl ?_
  refine k_iconst (v := nI 1) rfl (by decide) ?_
  refine k_iaddN rfl ?_
  refine k_sld rfl rfl (by omega) hL ?_
  refine k_aload_n rfl rfl ?_
  refine k_iload_n rfl rfl ?_
  refine k_iconst (v := nI 2) rfl (by decide) ?_
  refine k_iaddN rfl ?_
  refine k_sld rfl rfl (by omega) hL ?_
  refine k_aload_n rfl rfl ?_
  refine k_iload_n rfl rfl ?_
  refine k_iconst (v := nI 3) rfl (by decide) ?_
  refine k_iaddN rfl ?_
  refine k_sld rfl rfl (by omega) hL ?_
  refine k_i2l rfl ?_
  refine k_bipush (v := nI 32) rfl (by decide) ?_
  refine k_lshl rfl ?_
  refine k_aload_n rfl rfl ?_
  refine k_iload_n rfl rfl ?_
  refine k_iconst (v := nI 4) rfl (by decide) ?_
  refine k_iaddN rfl ?_
  refine k_sld rfl rfl (by omega) hL ?_
  refine k_i2l rfl ?_
  refine k_ldc2 rfl wd_611 ?_
  refine k_land rfl ?_
  refine k_lor rfl ?_
  refine k_aload_n rfl rfl ?_
  refine k_iload_n rfl rfl ?_
  refine k_iconst (v := nI 5) rfl (by decide) ?_
  refine k_iaddN rfl ?_
  refine k_sld rfl rfl (by omega) hL ?_
  refine k_i2l rfl ?_
  refine k_bipush (v := nI 32) rfl (by decide) ?_
  refine k_lshl rfl ?_
  refine k_aload_n rfl rfl ?_
  refine k_iload_n rfl rfl ?_
  refine k_bipush (v := nI 6) rfl (by decide) ?_
  refine k_iaddN rfl ?_
  refine k_sld rfl rfl (by omega) hL ?_
  refine k_i2l rfl ?_
  refine k_ldc2 rfl wd_611 ?_
  refine k_land rfl ?_
  refine k_lor rfl ?_
  refine k_wV4 rfl cw_R_look wd_579 (sr_o (pr_S R1)) rfl (by decide) (Nat.le_of_ble_eq_true rfl) (Nat.le_of_ble_eq_true rfl) (Nat.le_of_ble_eq_true rfl) ?_
  refine c_R_look R1 I _ _ _ _ (fun h2 x2 R2 => ?_)
  have P2 := pc_fr P1 x2 ap_C
  refine k_pop rfl rfl ?_
  refine k_goto rfl ?_
  exact kk h2 ⟨p1, _, P2, R2, Inv_lk I _ _ _ _, fun z => absurd z (by omega)⟩
theorem lwc_8 {g : Gx} {Z : Zx} {h : Hp} {o i : Nat} (hN : gx_L g ≤ 3585) (hL : gx_L g < 2147483648) (hi1 : 1 ≤ i) (hi : i + 7 ≤ gx_L g) (H : LI g h o i) (kk : ∀ h1, LI g h1 o (i + 7) → Ok g M_W8 room_1 Z 273 4707 h1 1082 [some (.ref (gx_b g)), some (.ref o), some (.ref (o + 259)), some (.int (nI i))] []) : Ok g M_W8 room_1 Z 273 4707 h 560 [some (.ref (gx_b g)), some (.ref o), some (.ref (o + 259)), some (.int (nI i))] [] := by
  obtain ⟨p, s, P, R0, I, hs1⟩ := H
  refine k_aload_n rfl rfl ?_
  refine k_aload_n rfl rfl ?_
  refine k_iload_n rfl rfl ?_
  refine k_iconst (v := nI 1) rfl (by decide) ?_
  refine k_iaddN rfl ?_
  refine k_sld rfl rfl (by omega) hL ?_
  refine k_aload_n rfl rfl ?_
  refine k_iload_n rfl rfl ?_
  refine k_iconst (v := nI 2) rfl (by decide) ?_
  refine k_iaddN rfl ?_
  refine k_sld rfl rfl (by omega) hL ?_
  refine k_wV2 rfl cw_S_after wd_287 (sc_o (pc_S P)) rfl (by decide) (Nat.le_of_ble_eq_true rfl) (Nat.le_of_ble_eq_true rfl) (Nat.le_of_ble_eq_true rfl) ?_
  refine c_S_after P I _ _ ?_
  have R1 := R0
  have P1 := P
  refine k_pop2_2 rfl rfl ?_
  refine k_aload_n rfl rfl ?_
  refine k_aload_n rfl rfl ?_
  refine k_iload_n rfl rfl ?_
  refine k_iconst (v := nI 1) rfl (by decide) ?_
  refine k_iaddN rfl ?_
  refine k_sld rfl rfl (by omega) hL ?_
  refine k_aload_n rfl rfl ?_
  refine k_iload_n rfl rfl ?_
  refine k_iconst (v := nI 2) rfl (by decide) ?_
  refine k_iaddN rfl ?_
  refine k_sld rfl rfl (by omega) hL ?_
  refine k_wV2 rfl cw_R_after wd_563 (sr_o (pr_S R1)) rfl (by decide) (Nat.le_of_ble_eq_true rfl) (Nat.le_of_ble_eq_true rfl) (Nat.le_of_ble_eq_true rfl) ?_
  refine c_R_after R1 I _ _ ?_
  refine k_pop2_2 rfl rfl ?_
  refine k_goto rfl ?_
  exact kk h ⟨p, s, P, R0, I, fun z => absurd z (by omega)⟩
theorem lwc_9 {g : Gx} {Z : Zx} {h : Hp} {o i : Nat} (hN : gx_L g ≤ 3585) (hL : gx_L g < 2147483648) (hi1 : 1 ≤ i) (hi : i + 7 ≤ gx_L g) (H : LI g h o i) (kk : ∀ h1, LI g h1 o (i + 7) → Ok g M_W9 room_1 Z 273 4707 h1 1082 [some (.ref (gx_b g)), some (.ref o), some (.ref (o + 259)), some (.int (nI i))] []) : Ok g M_W9 room_1 Z 273 4707 h 593 [some (.ref (gx_b g)), some (.ref o), some (.ref (o + 259)), some (.int (nI i))] [] := by
  obtain ⟨p, s, P, R0, I, hs1⟩ := H
  refine k_aload_n rfl rfl ?_
  refine k_wV0 rfl cw_S_sums wd_299 (sc_o (pc_S P)) rfl (by decide) (Nat.le_of_ble_eq_true rfl) (Nat.le_of_ble_eq_true rfl) (Nat.le_of_ble_eq_true rfl) ?_
  refine c_S_sums P I ?_
  have R1 := R0
  have P1 := P
  refine k_pop rfl rfl ?_
  refine k_aload_n rfl rfl ?_
  refine k_wV0 rfl cw_R_sums wd_571 (sr_o (pr_S R1)) rfl (by decide) (Nat.le_of_ble_eq_true rfl) (Nat.le_of_ble_eq_true rfl) (Nat.le_of_ble_eq_true rfl) ?_
  refine c_R_sums R1 I ?_
  refine k_pop rfl rfl ?_
  refine k_goto rfl ?_
  exact kk h ⟨p, s, P, R0, I, fun z => absurd z (by omega)⟩
theorem lwc_10 {g : Gx} {Z : Zx} {h : Hp} {o i : Nat} (hN : gx_L g ≤ 3585) (hL : gx_L g < 2147483648) (hi1 : 1 ≤ i) (hi : i + 7 ≤ gx_L g) (H : LI g h o i) (kk : ∀ h1, LI g h1 o (i + 7) → Ok g M_W10 room_1 Z 273 4707 h1 1082 [some (.ref (gx_b g)), some (.ref o), some (.ref (o + 259)), some (.int (nI i))] []) : Ok g M_W10 room_1 Z 273 4707 h 606 [some (.ref (gx_b g)), some (.ref o), some (.ref (o + 259)), some (.int (nI i))] [] := by
  obtain ⟨p, s, P, R0, I, hs1⟩ := H
  refine k_aload_n rfl rfl ?_
  refine k_aload_n rfl rfl ?_
  refine k_iload_n rfl rfl ?_
  refine k_iconst (v := nI 1) rfl (by decide) ?_
  refine k_iaddN rfl ?_
  refine k_sld rfl rfl (by omega) hL ?_
  refine k_wV1 rfl cw_S_found wd_303 (sc_o (pc_S P)) rfl (by decide) (Nat.le_of_ble_eq_true rfl) (Nat.le_of_ble_eq_true rfl) (Nat.le_of_ble_eq_true rfl) ?_
  refine c_S_found P I _ ?_
  have R1 := R0
  have P1 := P
  refine k_pop2_2 rfl rfl ?_
  refine k_aload_n rfl rfl ?_
  refine k_aload_n rfl rfl ?_
  refine k_iload_n rfl rfl ?_
  refine k_iconst (v := nI 1) rfl (by decide) ?_
  refine k_iaddN rfl ?_
  refine k_sld rfl rfl (by omega) hL ?_
  refine k_wV1 rfl cw_R_found wd_575 (sr_o (pr_S R1)) rfl (by decide) (Nat.le_of_ble_eq_true rfl) (Nat.le_of_ble_eq_true rfl) (Nat.le_of_ble_eq_true rfl) ?_
  refine c_R_found R1 I _ ?_
  refine k_pop2_2 rfl rfl ?_
  refine k_goto rfl ?_
  exact kk h ⟨p, s, P, R0, I, fun z => absurd z (by omega)⟩
theorem lwc_11 {g : Gx} {Z : Zx} {h : Hp} {o i : Nat} (hN : gx_L g ≤ 3585) (hL : gx_L g < 2147483648) (hi1 : 1 ≤ i) (hi : i + 7 ≤ gx_L g) (H : LI g h o i) (kk : ∀ h1, LI g h1 o (i + 7) → Ok g M_W11 room_1 Z 273 4707 h1 1082 [some (.ref (gx_b g)), some (.ref o), some (.ref (o + 259)), some (.int (nI i))] []) : Ok g M_W11 room_1 Z 273 4707 h 629 [some (.ref (gx_b g)), some (.ref o), some (.ref (o + 259)), some (.int (nI i))] [] := by
  obtain ⟨p, s, P, R0, I, hs1⟩ := H
  refine k_aload_n rfl rfl ?_
  refine k_aload_n rfl rfl ?_
  refine k_iload_n rfl rfl ?_
  refine k_iconst (v := nI 1) rfl (by decide) ?_
  refine k_iaddN rfl ?_
  refine k_sld rfl rfl (by omega) hL ?_
  refine k_aload_n rfl rfl ?_
  refine k_iload_n rfl rfl ?_
  refine k_iconst (v := nI 2) rfl (by decide) ?_
  refine k_iaddN rfl ?_
  refine k_sld rfl rfl (by omega) hL ?_
  refine k_aload_n rfl rfl ?_
  refine k_iload_n rfl rfl ?_
  refine k_iconst (v := nI 3) rfl (by decide) ?_
  refine k_iaddN rfl ?_
  refine k_sld rfl rfl (by omega) hL ?_
  refine k_wV3 rfl cw_S_line wd_309 (sc_o (pc_S P)) rfl (by decide) (Nat.le_of_ble_eq_true rfl) (Nat.le_of_ble_eq_true rfl) (Nat.le_of_ble_eq_true rfl) ?_
  refine c_S_line P I _ _ _ ?_
  have R1 := R0
  have P1 := P
  refine k_pop rfl rfl ?_
  refine k_aload_n rfl rfl ?_
  refine k_aload_n rfl rfl ?_
  refine k_iload_n rfl rfl ?_
  refine k_iconst (v := nI 1) rfl (by decide) ?_
  refine k_iaddN rfl ?_
  refine k_sld rfl rfl (by omega) hL ?_
  refine k_aload_n rfl rfl ?_
  refine k_iload_n rfl rfl ?_
  refine k_iconst (v := nI 2) rfl (by decide) ?_
  refine k_iaddN rfl ?_
  refine k_sld rfl rfl (by omega) hL ?_
  refine k_aload_n rfl rfl ?_
  refine k_iload_n rfl rfl ?_
  refine k_iconst (v := nI 3) rfl (by decide) ?_
  refine k_iaddN rfl ?_
  refine k_sld rfl rfl (by omega) hL ?_
  refine k_wV3 rfl cw_R_line wd_603 (sr_o (pr_S R1)) rfl (by decide) (Nat.le_of_ble_eq_true rfl) (Nat.le_of_ble_eq_true rfl) (Nat.le_of_ble_eq_true rfl) ?_
  refine c_R_line R1 I _ _ _ ?_
  refine k_pop rfl rfl ?_
  refine k_goto rfl ?_
  exact kk h ⟨p, s, P, R0, I, fun z => absurd z (by omega)⟩
theorem lwc_12 {g : Gx} {Z : Zx} {h : Hp} {o i : Nat} (hN : gx_L g ≤ 3585) (hL : gx_L g < 2147483648) (hi1 : 1 ≤ i) (hi : i + 7 ≤ gx_L g) (H : LI g h o i) (kk : ∀ h1, LI g h1 o (i + 7) → Ok g M_W12 room_1 Z 273 4707 h1 1082 [some (.ref (gx_b g)), some (.ref o), some (.ref (o + 259)), some (.int (nI i))] []) : Ok g M_W12 room_1 Z 273 4707 h 672 [some (.ref (gx_b g)), some (.ref o), some (.ref (o + 259)), some (.int (nI i))] [] := by
  obtain ⟨p, s, P, R0, I, hs1⟩ := H
  refine k_aload_n rfl rfl ?_
  refine k_aload_n rfl rfl ?_
  refine k_iload_n rfl rfl ?_
  refine k_iconst (v := nI 1) rfl (by decide) ?_
  refine k_iaddN rfl ?_
  refine k_sld rfl rfl (by omega) hL ?_
  refine k_wV1 rfl cw_S_covers wd_322 (sc_o (pc_S P)) rfl (by decide) (Nat.le_of_ble_eq_true rfl) (Nat.le_of_ble_eq_true rfl) (Nat.le_of_ble_eq_true rfl) ?_
  refine c_S_covers P I _ (fun h1 x1 P1 => ?_)
  have R1 := pr_fr R0 x1 ap_R
  refine k_pop rfl rfl ?_
  refine k_aload_n rfl rfl ?_
  refine k_aload_n rfl rfl ?_
  refine k_iload_n rfl rfl ?_
  refine k_iconst (v := nI 1) rfl (by decide) ?_
  refine k_iaddN rfl ?_
  refine k_sld rfl rfl (by omega) hL ?_
  refine k_wV1 rfl cw_R_covers wd_607 (sr_o (pr_S R1)) rfl (by decide) (Nat.le_of_ble_eq_true rfl) (Nat.le_of_ble_eq_true rfl) (Nat.le_of_ble_eq_true rfl) ?_
  refine c_R_covers R1 I _ ?_
  refine k_pop rfl rfl ?_
  refine k_goto rfl ?_
  exact kk h1 ⟨p, s, P1, R1, I, fun z => absurd z (by omega)⟩
theorem lwc_13 {g : Gx} {Z : Zx} {h : Hp} {o i : Nat} (hN : gx_L g ≤ 3585) (hL : gx_L g < 2147483648) (hi1 : 1 ≤ i) (hi : i + 7 ≤ gx_L g) (H : LI g h o i) (kk : ∀ h1, LI g h1 o (i + 7) → Ok g M_W13 room_1 Z 273 4707 h1 1082 [some (.ref (gx_b g)), some (.ref o), some (.ref (o + 259)), some (.int (nI i))] []) : Ok g M_W13 room_1 Z 273 4707 h 695 [some (.ref (gx_b g)), some (.ref o), some (.ref (o + 259)), some (.int (nI i))] [] := by
  obtain ⟨p, s, P, R0, I, hs1⟩ := H
  refine k_aload_n rfl rfl ?_
  refine k_aload_n rfl rfl ?_
  refine k_iload_n rfl rfl ?_
  refine k_iconst (v := nI 1) rfl (by decide) ?_
  refine k_iaddN rfl ?_
  refine k_sld rfl rfl (by omega) hL ?_
  refine k_aload_n rfl rfl ?_
  refine k_iload_n rfl rfl ?_
  refine k_iconst (v := nI 2) rfl (by decide) ?_
  refine k_iaddN rfl ?_
  refine k_sld rfl rfl (by omega) hL ?_
  refine k_aload_n rfl rfl ?_
  refine k_iload_n rfl rfl ?_
  refine k_iconst (v := nI 3) rfl (by decide) ?_
  refine k_iaddN rfl ?_
  refine k_sld rfl rfl (by omega) hL ?_
  refine k_wV3 rfl cw_S_rest wd_326 (sc_o (pc_S P)) rfl (by decide) (Nat.le_of_ble_eq_true rfl) (Nat.le_of_ble_eq_true rfl) (Nat.le_of_ble_eq_true rfl) ?_
  refine c_S_rest P I _ _ _ (fun h1 p1 x1 P1 => ?_)
  have R1 := pr_fr R0 x1 ap_R
  refine k_pop rfl rfl ?_
  refine k_aload_n rfl rfl ?_
  refine k_aload_n rfl rfl ?_
  refine k_iload_n rfl rfl ?_
  refine k_iconst (v := nI 1) rfl (by decide) ?_
  refine k_iaddN rfl ?_
  refine k_sld rfl rfl (by omega) hL ?_
  refine k_aload_n rfl rfl ?_
  refine k_iload_n rfl rfl ?_
  refine k_iconst (v := nI 2) rfl (by decide) ?_
  refine k_iaddN rfl ?_
  refine k_sld rfl rfl (by omega) hL ?_
  refine k_aload_n rfl rfl ?_
  refine k_iload_n rfl rfl ?_
  refine k_iconst (v := nI 3) rfl (by decide) ?_
  refine k_iaddN rfl ?_
  refine k_sld rfl rfl (by omega) hL ?_
  refine k_wV3 rfl cw_R_rest wd_488 (sr_o (pr_S R1)) rfl (by decide) (Nat.le_of_ble_eq_true rfl) (Nat.le_of_ble_eq_true rfl) (Nat.le_of_ble_eq_true rfl) ?_
  refine c_R_rest R1 I _ _ _ (fun h2 x2 R2 => ?_)
  have P2 := pc_fr P1 x2 ap_C
  refine k_pop rfl rfl ?_
  refine k_goto rfl ?_
  exact kk h2 ⟨p1, _, P2, R2, Inv_rs I _ _ _, fun z => absurd z (by omega)⟩
theorem lwc_14 {g : Gx} {Z : Zx} {h : Hp} {o i : Nat} (hN : gx_L g ≤ 3585) (hL : gx_L g < 2147483648) (hi1 : 1 ≤ i) (hi : i + 7 ≤ gx_L g) (H : LI g h o i) (kk : ∀ h1, LI g h1 o (i + 7) → Ok g M_W14 room_1 Z 273 4707 h1 1082 [some (.ref (gx_b g)), some (.ref o), some (.ref (o + 259)), some (.int (nI i))] []) : Ok g M_W14 room_1 Z 273 4707 h 738 [some (.ref (gx_b g)), some (.ref o), some (.ref (o + 259)), some (.int (nI i))] [] := by
  obtain ⟨p, s, P, R0, I, hs1⟩ := H
  refine k_aload_n rfl rfl ?_
  refine k_wV0 rfl cw_S_thing wd_330 (sc_o (pc_S P)) rfl (by decide) (Nat.le_of_ble_eq_true rfl) (Nat.le_of_ble_eq_true rfl) (Nat.le_of_ble_eq_true rfl) ?_
  refine c_S_thing P I (fun h1 p1 x1 P1 => ?_)
  have R1 := pr_fr R0 x1 ap_R
  refine k_pop rfl rfl ?_
  refine k_aload_n rfl rfl ?_
  refine k_wV0 rfl cw_R_thing wd_489 (sr_o (pr_S R1)) rfl (by decide) (Nat.le_of_ble_eq_true rfl) (Nat.le_of_ble_eq_true rfl) (Nat.le_of_ble_eq_true rfl) ?_
  refine c_R_thing R1 I (fun h2 x2 R2 => ?_)
  have P2 := pc_fr P1 x2 ap_C
  refine k_pop rfl rfl ?_
  refine k_goto rfl ?_
  exact kk h2 ⟨p1, _, P2, R2, Inv_th I, fun z => absurd z (by omega)⟩
theorem lwc_15 {g : Gx} {Z : Zx} {h : Hp} {o i : Nat} (hN : gx_L g ≤ 3585) (hL : gx_L g < 2147483648) (hi1 : 1 ≤ i) (hi : i + 7 ≤ gx_L g) (H : LI g h o i) (kk : ∀ h1, LI g h1 o (i + 7) → Ok g M_W15 room_1 Z 273 4707 h1 1082 [some (.ref (gx_b g)), some (.ref o), some (.ref (o + 259)), some (.int (nI i))] []) : Ok g M_W15 room_1 Z 273 4707 h 751 [some (.ref (gx_b g)), some (.ref o), some (.ref (o + 259)), some (.int (nI i))] [] := by
  obtain ⟨p, s, P, R0, I, hs1⟩ := H
  refine k_aload_n rfl rfl ?_
  refine k_aload_n rfl rfl ?_
  refine k_iload_n rfl rfl ?_
  refine k_iconst (v := nI 1) rfl (by decide) ?_
  refine k_iaddN rfl ?_
  refine k_sld rfl rfl (by omega) hL ?_
  refine k_aload_n rfl rfl ?_
  refine k_iload_n rfl rfl ?_
  refine k_iconst (v := nI 2) rfl (by decide) ?_
  refine k_iaddN rfl ?_
  refine k_sld rfl rfl (by omega) hL ?_
  refine k_aload_n rfl rfl ?_
  refine k_iload_n rfl rfl ?_
  refine k_iconst (v := nI 3) rfl (by decide) ?_
  refine k_iaddN rfl ?_
  refine k_sld rfl rfl (by omega) hL ?_
  refine k_i2l rfl ?_
  refine k_bipush (v := nI 32) rfl (by decide) ?_
  refine k_lshl rfl ?_
  refine k_aload_n rfl rfl ?_
  refine k_iload_n rfl rfl ?_
  refine k_iconst (v := nI 4) rfl (by decide) ?_
  refine k_iaddN rfl ?_
  refine k_sld rfl rfl (by omega) hL ?_
  refine k_i2l rfl ?_
  refine k_ldc2 rfl wd_611 ?_
  refine k_land rfl ?_
  refine k_lor rfl ?_
  refine k_wV3 rfl cw_S_countsOf wd_334 (sc_o (pc_S P)) rfl (by decide) (Nat.le_of_ble_eq_true rfl) (Nat.le_of_ble_eq_true rfl) (Nat.le_of_ble_eq_true rfl) ?_
  refine c_S_countsOf P I _ _ _ (fun h1 p1 x1 P1 => ?_)
  have R1 := pr_fr R0 x1 ap_R
  refine k_pop rfl rfl ?_
  refine k_aload_n rfl rfl ?_
  refine k_aload_n rfl rfl ?_
  refine k_iload_n rfl rfl ?_
  refine k_iconst (v := nI 1) rfl (by decide) ?_
  refine k_iaddN rfl ?_
  refine k_sld rfl rfl (by omega) hL ?_
  refine k_aload_n rfl rfl ?_
  refine k_iload_n rfl rfl ?_
  refine k_iconst (v := nI 2) rfl (by decide) ?_
  refine k_iaddN rfl ?_
  refine k_sld rfl rfl (by omega) hL ?_
  refine k_aload_n rfl rfl ?_
  refine k_iload_n rfl rfl ?_
  refine k_iconst (v := nI 3) rfl (by decide) ?_
  refine k_iaddN rfl ?_
  refine k_sld rfl rfl (by omega) hL ?_
  refine k_i2l rfl ?_
  refine k_bipush (v := nI 32) rfl (by decide) ?_
  refine k_lshl rfl ?_
  refine k_aload_n rfl rfl ?_
  refine k_iload_n rfl rfl ?_
  refine k_iconst (v := nI 4) rfl (by decide) ?_
  refine k_iaddN rfl ?_
  refine k_sld rfl rfl (by omega) hL ?_
  refine k_i2l rfl ?_
  refine k_ldc2 rfl wd_611 ?_
  refine k_land rfl ?_
  refine k_lor rfl ?_
  refine k_wV3 rfl cw_R_countsOf wd_471 (sr_o (pr_S R1)) rfl (by decide) (Nat.le_of_ble_eq_true rfl) (Nat.le_of_ble_eq_true rfl) (Nat.le_of_ble_eq_true rfl) ?_
  refine c_R_countsOf R1 I _ _ _ (fun h2 x2 R2 => ?_)
  have P2 := pc_fr P1 x2 ap_C
  refine k_pop rfl rfl ?_
  refine k_goto rfl ?_
  exact kk h2 ⟨p1, _, P2, R2, Inv_cu I _ _ _, fun z => absurd z (by omega)⟩
theorem lwc_16 {g : Gx} {Z : Zx} {h : Hp} {o i : Nat} (hN : gx_L g ≤ 3585) (hL : gx_L g < 2147483648) (hi1 : 1 ≤ i) (hi : i + 7 ≤ gx_L g) (H : LI g h o i) (kk : ∀ h1, LI g h1 o (i + 7) → Ok g M_W16 room_1 Z 273 4707 h1 1082 [some (.ref (gx_b g)), some (.ref o), some (.ref (o + 259)), some (.int (nI i))] []) : Ok g M_W16 room_1 Z 273 4707 h 824 [some (.ref (gx_b g)), some (.ref o), some (.ref (o + 259)), some (.int (nI i))] [] := by
  obtain ⟨p, s, P, R0, I, hs1⟩ := H
  refine k_aload_n rfl rfl ?_
  refine k_aload_n rfl rfl ?_
  refine k_iload_n rfl rfl ?_
  refine k_iconst (v := nI 1) rfl (by decide) ?_
  refine k_iaddN rfl ?_
  refine k_sld rfl rfl (by omega) hL ?_
  refine k_i2l rfl ?_
  refine k_bipush (v := nI 32) rfl (by decide) ?_
  refine k_lshl rfl ?_
  refine k_aload_n rfl rfl ?_
  refine k_iload_n rfl rfl ?_
  refine k_iconst (v := nI 2) rfl (by decide) ?_
  refine k_iaddN rfl ?_
  refine k_sld rfl rfl (by omega) hL ?_
  refine k_i2l rfl ?_
  refine k_ldc2 rfl wd_611 ?_
  refine k_land rfl ?_
  refine k_lor rfl ?_
  refine k_aload_n rfl rfl ?_
  refine k_iload_n rfl rfl ?_
  refine k_iconst (v := nI 3) rfl (by decide) ?_
  refine k_iaddN rfl ?_
  refine k_sld rfl rfl (by omega) hL ?_
  refine k_i2l rfl ?_
  refine k_bipush (v := nI 32) rfl (by decide) ?_
  refine k_lshl rfl ?_
  refine k_aload_n rfl rfl ?_
  refine k_iload_n rfl rfl ?_
  refine k_iconst (v := nI 4) rfl (by decide) ?_
  refine k_iaddN rfl ?_
  refine k_sld rfl rfl (by omega) hL ?_
  refine k_i2l rfl ?_
  refine k_ldc2 rfl wd_611 ?_
  refine k_land rfl ?_
  refine k_lor rfl ?_
  refine k_wV2 rfl cw_S_stop wd_335 (sc_o (pc_S P)) rfl (by decide) (Nat.le_of_ble_eq_true rfl) (Nat.le_of_ble_eq_true rfl) (Nat.le_of_ble_eq_true rfl) ?_
  refine c_S_stop P I _ _ (fun h1 p1 x1 P1 => ?_)
  have R1 := pr_fr R0 x1 ap_R
  refine k_pop rfl rfl ?_
  refine k_aload_n rfl rfl ?_
  refine k_aload_n rfl rfl ?_
  refine k_iload_n rfl rfl ?_
  refine k_iconst (v := nI 1) rfl (by decide) ?_
  refine k_iaddN rfl ?_
  refine k_sld rfl rfl (by omega) hL ?_
  refine k_i2l rfl ?_
  refine k_bipush (v := nI 32) rfl (by decide) ?_
  refine k_lshl rfl ?_
  refine k_aload_n rfl rfl ?_
  refine k_iload_n rfl rfl ?_
  refine k_iconst (v := nI 2) rfl (by decide) ?_
  refine k_iaddN rfl ?_
  refine k_sld rfl rfl (by omega) hL ?_
  refine k_i2l rfl ?_
  refine k_ldc2 rfl wd_611 ?_
  refine k_land rfl ?_
  refine k_lor rfl ?_
  refine k_aload_n rfl rfl ?_
  refine k_iload_n rfl rfl ?_
  refine k_iconst (v := nI 3) rfl (by decide) ?_
  refine k_iaddN rfl ?_
  refine k_sld rfl rfl (by omega) hL ?_
  refine k_i2l rfl ?_
  refine k_bipush (v := nI 32) rfl (by decide) ?_
  refine k_lshl rfl ?_
  refine k_aload_n rfl rfl ?_
  refine k_iload_n rfl rfl ?_
  refine k_iconst (v := nI 4) rfl (by decide) ?_
  refine k_iaddN rfl ?_
  refine k_sld rfl rfl (by omega) hL ?_
  refine k_i2l rfl ?_
  refine k_ldc2 rfl wd_611 ?_
  refine k_land rfl ?_
  refine k_lor rfl ?_
  refine k_wV2 rfl cw_R_stop wd_498 (sr_o (pr_S R1)) rfl (by decide) (Nat.le_of_ble_eq_true rfl) (Nat.le_of_ble_eq_true rfl) (Nat.le_of_ble_eq_true rfl) ?_
  refine c_R_stop R1 I _ _ (fun h2 x2 R2 => ?_)
  have P2 := pc_fr P1 x2 ap_C
  refine k_pop rfl rfl ?_
  refine k_goto rfl ?_
  exact kk h2 ⟨p1, _, P2, R2, Inv_sp I _ _, fun z => absurd z (by omega)⟩
theorem lwc_17 {g : Gx} {Z : Zx} {h : Hp} {o i : Nat} (hN : gx_L g ≤ 3585) (hL : gx_L g < 2147483648) (hi1 : 1 ≤ i) (hi : i + 7 ≤ gx_L g) (H : LI g h o i) (kk : ∀ h1, LI g h1 o (i + 7) → Ok g M_W17 room_1 Z 273 4707 h1 1082 [some (.ref (gx_b g)), some (.ref o), some (.ref (o + 259)), some (.int (nI i))] []) : Ok g M_W17 room_1 Z 273 4707 h 917 [some (.ref (gx_b g)), some (.ref o), some (.ref (o + 259)), some (.int (nI i))] [] := by
  obtain ⟨p, s, P, R0, I, hs1⟩ := H
  refine k_aload_n rfl rfl ?_
  refine k_wV0 rfl cw_S_stops wd_339 (sc_o (pc_S P)) rfl (by decide) (Nat.le_of_ble_eq_true rfl) (Nat.le_of_ble_eq_true rfl) (Nat.le_of_ble_eq_true rfl) ?_
  refine c_S_stops P I ?_
  have R1 := R0
  have P1 := P
  refine k_pop rfl rfl ?_
  refine k_aload_n rfl rfl ?_
  refine k_wV0 rfl cw_R_stops wd_587 (sr_o (pr_S R1)) rfl (by decide) (Nat.le_of_ble_eq_true rfl) (Nat.le_of_ble_eq_true rfl) (Nat.le_of_ble_eq_true rfl) ?_
  refine c_R_stops R1 I ?_
  refine k_pop rfl rfl ?_
  refine k_goto rfl ?_
  exact kk h ⟨p, s, P, R0, I, fun z => absurd z (by omega)⟩
theorem lwc_18 {g : Gx} {Z : Zx} {h : Hp} {o i : Nat} (hN : gx_L g ≤ 3585) (hL : gx_L g < 2147483648) (hi1 : 1 ≤ i) (hi : i + 7 ≤ gx_L g) (H : LI g h o i) (kk : ∀ h1, LI g h1 o (i + 7) → Ok g M_W18 room_1 Z 273 4707 h1 1082 [some (.ref (gx_b g)), some (.ref o), some (.ref (o + 259)), some (.int (nI i))] []) : Ok g M_W18 room_1 Z 273 4707 h 930 [some (.ref (gx_b g)), some (.ref o), some (.ref (o + 259)), some (.int (nI i))] [] := by
  obtain ⟨p, s, P, R0, I, hs1⟩ := H
  refine k_aload_n rfl rfl ?_
  refine k_aload_n rfl rfl ?_
  refine k_iload_n rfl rfl ?_
  refine k_iconst (v := nI 1) rfl (by decide) ?_
  refine k_iaddN rfl ?_
  refine k_sld rfl rfl (by omega) hL ?_
  refine k_wV1 rfl cw_S_order wd_343 (sc_o (pc_S P)) rfl (by decide) (Nat.le_of_ble_eq_true rfl) (Nat.le_of_ble_eq_true rfl) (Nat.le_of_ble_eq_true rfl) ?_
  refine c_S_order P I _ (fun h1 x1 P1 => ?_)
  have R1 := pr_fr R0 x1 ap_R
  refine k_pop rfl rfl ?_
  refine k_aload_n rfl rfl ?_
  refine k_aload_n rfl rfl ?_
  refine k_iload_n rfl rfl ?_
  refine k_iconst (v := nI 1) rfl (by decide) ?_
  refine k_iaddN rfl ?_
  refine k_sld rfl rfl (by omega) hL ?_
  refine k_wV1 rfl cw_R_order wd_591 (sr_o (pr_S R1)) rfl (by decide) (Nat.le_of_ble_eq_true rfl) (Nat.le_of_ble_eq_true rfl) (Nat.le_of_ble_eq_true rfl) ?_
  refine c_R_order R1 I _ ?_
  refine k_pop rfl rfl ?_
  refine k_goto rfl ?_
  exact kk h1 ⟨p, s, P1, R1, I, fun z => absurd z (by omega)⟩
theorem lwc_19 {g : Gx} {Z : Zx} {h : Hp} {o i : Nat} (hN : gx_L g ≤ 3585) (hL : gx_L g < 2147483648) (hi1 : 1 ≤ i) (hi : i + 7 ≤ gx_L g) (H : LI g h o i) (kk : ∀ h1, LI g h1 o (i + 7) → Ok g M_W19 room_1 Z 273 4707 h1 1082 [some (.ref (gx_b g)), some (.ref o), some (.ref (o + 259)), some (.int (nI i))] []) : Ok g M_W19 room_1 Z 273 4707 h 953 [some (.ref (gx_b g)), some (.ref o), some (.ref (o + 259)), some (.int (nI i))] [] := by
  obtain ⟨p, s, P, R0, I, hs1⟩ := H
  refine k_aload_n rfl rfl ?_
  refine k_aload_n rfl rfl ?_
  refine k_iload_n rfl rfl ?_
  refine k_iconst (v := nI 1) rfl (by decide) ?_
  refine k_iaddN rfl ?_
  refine k_sld rfl rfl (by omega) hL ?_
  refine k_aload_n rfl rfl ?_
  refine k_iload_n rfl rfl ?_
  refine k_iconst (v := nI 2) rfl (by decide) ?_
  refine k_iaddN rfl ?_
  refine k_sld rfl rfl (by omega) hL ?_
  refine k_wV2 rfl cw_S_seen wd_355 (sc_o (pc_S P)) rfl (by decide) (Nat.le_of_ble_eq_true rfl) (Nat.le_of_ble_eq_true rfl) (Nat.le_of_ble_eq_true rfl) ?_
  refine c_S_seen P I _ _ (fun h1 p1 x1 P1 => ?_)
  have R1 := pr_fr R0 x1 ap_R
  refine k_pop rfl rfl ?_
  refine k_aload_n rfl rfl ?_
  refine k_aload_n rfl rfl ?_
  refine k_iload_n rfl rfl ?_
  refine k_iconst (v := nI 1) rfl (by decide) ?_
  refine k_iaddN rfl ?_
  refine k_sld rfl rfl (by omega) hL ?_
  refine k_aload_n rfl rfl ?_
  refine k_iload_n rfl rfl ?_
  refine k_iconst (v := nI 2) rfl (by decide) ?_
  refine k_iaddN rfl ?_
  refine k_sld rfl rfl (by omega) hL ?_
  refine k_wV2 rfl cw_R_seen wd_583 (sr_o (pr_S R1)) rfl (by decide) (Nat.le_of_ble_eq_true rfl) (Nat.le_of_ble_eq_true rfl) (Nat.le_of_ble_eq_true rfl) ?_
  refine c_R_seen R1 I _ _ (fun h2 x2 R2 => ?_)
  have P2 := pc_fr P1 x2 ap_C
  refine k_pop rfl rfl ?_
  refine k_goto rfl ?_
  exact kk h2 ⟨p1, _, P2, R2, Inv_se I _ _, fun z => absurd z (by omega)⟩
theorem lwc_20 {g : Gx} {Z : Zx} {h : Hp} {o i : Nat} (hN : gx_L g ≤ 3585) (hL : gx_L g < 2147483648) (hi1 : 1 ≤ i) (hi : i + 7 ≤ gx_L g) (H : LI g h o i) (kk : ∀ h1, LI g h1 o (i + 7) → Ok g M_W20 room_1 Z 273 4707 h1 1082 [some (.ref (gx_b g)), some (.ref o), some (.ref (o + 259)), some (.int (nI i))] []) : Ok g M_W20 room_1 Z 273 4707 h 986 [some (.ref (gx_b g)), some (.ref o), some (.ref (o + 259)), some (.int (nI i))] [] := by
  obtain ⟨p, s, P, R0, I, hs1⟩ := H
  refine k_aload_n rfl rfl ?_
  refine k_aload_n rfl rfl ?_
  refine k_iload_n rfl rfl ?_
  refine k_iconst (v := nI 1) rfl (by decide) ?_
  refine k_iaddN rfl ?_
  refine k_sld rfl rfl (by omega) hL ?_
  refine k_aload_n rfl rfl ?_
  refine k_iload_n rfl rfl ?_
  refine k_iconst (v := nI 2) rfl (by decide) ?_
  refine k_iaddN rfl ?_
  refine k_sld rfl rfl (by omega) hL ?_
  refine k_wV2 rfl cw_S_log wd_359 (sc_o (pc_S P)) rfl (by decide) (Nat.le_of_ble_eq_true rfl) (Nat.le_of_ble_eq_true rfl) (Nat.le_of_ble_eq_true rfl) ?_
  refine c_S_log P I _ _ ?_
  have R1 := R0
  have P1 := P
  refine k_pop rfl rfl ?_
  refine k_aload_n rfl rfl ?_
  refine k_aload_n rfl rfl ?_
  refine k_iload_n rfl rfl ?_
  refine k_iconst (v := nI 1) rfl (by decide) ?_
  refine k_iaddN rfl ?_
  refine k_sld rfl rfl (by omega) hL ?_
  refine k_aload_n rfl rfl ?_
  refine k_iload_n rfl rfl ?_
  refine k_iconst (v := nI 2) rfl (by decide) ?_
  refine k_iaddN rfl ?_
  refine k_sld rfl rfl (by omega) hL ?_
  refine k_wV2 rfl cw_R_log wd_599 (sr_o (pr_S R1)) rfl (by decide) (Nat.le_of_ble_eq_true rfl) (Nat.le_of_ble_eq_true rfl) (Nat.le_of_ble_eq_true rfl) ?_
  refine c_R_log R1 I _ _ ?_
  refine k_pop rfl rfl ?_
  refine k_goto rfl ?_
  exact kk h ⟨p, s, P, R0, I, fun z => absurd z (by omega)⟩
theorem lwc_21 {g : Gx} {Z : Zx} {h : Hp} {o i : Nat} (hN : gx_L g ≤ 3585) (hL : gx_L g < 2147483648) (hi1 : 1 ≤ i) (hi : i + 7 ≤ gx_L g) (H : LI g h o i) (kk : ∀ h1, LI g h1 o (i + 7) → Ok g M_W21 room_1 Z 273 4707 h1 1082 [some (.ref (gx_b g)), some (.ref o), some (.ref (o + 259)), some (.int (nI i))] []) : Ok g M_W21 room_1 Z 273 4707 h 1019 [some (.ref (gx_b g)), some (.ref o), some (.ref (o + 259)), some (.int (nI i))] [] := by
  obtain ⟨p, s, P, R0, I, hs1⟩ := H
  refine k_aload_n rfl rfl ?_
  refine k_aload_n rfl rfl ?_
  refine k_iload_n rfl rfl ?_
  refine k_iconst (v := nI 1) rfl (by decide) ?_
  refine k_iaddN rfl ?_
  refine k_sld rfl rfl (by omega) hL ?_
  refine k_aload_n rfl rfl ?_
  refine k_iload_n rfl rfl ?_
  refine k_iconst (v := nI 2) rfl (by decide) ?_
  refine k_iaddN rfl ?_
  refine k_sld rfl rfl (by omega) hL ?_
  refine k_i2l rfl ?_
  refine k_bipush (v := nI 32) rfl (by decide) ?_
  refine k_lshl rfl ?_
  refine k_aload_n rfl rfl ?_
  refine k_iload_n rfl rfl ?_
  refine k_iconst (v := nI 3) rfl (by decide) ?_
  refine k_iaddN rfl ?_
  refine k_sld rfl rfl (by omega) hL ?_
  refine k_i2l rfl ?_
  refine k_ldc2 rfl wd_611 ?_
  refine k_land rfl ?_
  refine k_lor rfl ?_
  refine k_wV2 rfl cw_S_area wd_363 (sc_o (pc_S P)) rfl (by decide) (Nat.le_of_ble_eq_true rfl) (Nat.le_of_ble_eq_true rfl) (Nat.le_of_ble_eq_true rfl) ?_
  refine c_S_area P I _ _ (fun h1 p1 x1 P1 => ?_)
  have R1 := pr_fr R0 x1 ap_R
  refine k_pop rfl rfl ?_
  refine k_aload_n rfl rfl ?_
  refine k_aload_n rfl rfl ?_
  refine k_iload_n rfl rfl ?_
  refine k_iconst (v := nI 1) rfl (by decide) ?_
  refine k_iaddN rfl ?_
  refine k_sld rfl rfl (by omega) hL ?_
  refine k_aload_n rfl rfl ?_
  refine k_iload_n rfl rfl ?_
  refine k_iconst (v := nI 2) rfl (by decide) ?_
  refine k_iaddN rfl ?_
  refine k_sld rfl rfl (by omega) hL ?_
  refine k_i2l rfl ?_
  refine k_bipush (v := nI 32) rfl (by decide) ?_
  refine k_lshl rfl ?_
  refine k_aload_n rfl rfl ?_
  refine k_iload_n rfl rfl ?_
  refine k_iconst (v := nI 3) rfl (by decide) ?_
  refine k_iaddN rfl ?_
  refine k_sld rfl rfl (by omega) hL ?_
  refine k_i2l rfl ?_
  refine k_ldc2 rfl wd_611 ?_
  refine k_land rfl ?_
  refine k_lor rfl ?_
  refine k_wV2 rfl cw_R_area wd_493 (sr_o (pr_S R1)) rfl (by decide) (Nat.le_of_ble_eq_true rfl) (Nat.le_of_ble_eq_true rfl) (Nat.le_of_ble_eq_true rfl) ?_
  refine c_R_area R1 I _ _ (fun h2 x2 R2 => ?_)
  have P2 := pc_fr P1 x2 ap_C
  refine k_pop rfl rfl ?_
  refine k_goto rfl ?_
  exact kk h2 ⟨p1, _, P2, R2, Inv_ar I _ _, fun z => absurd z (by omega)⟩
