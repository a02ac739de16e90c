theorem sc_old {g : Gx} {h h1 : Hp} {o : Nat} (S : ShC g h o) (x : old (o + 259) h h1) (hn : hp_n h ≤ hp_n h1) : ShC g h1 o := by
  have e0 : ∀ a, o ≤ a → a < o + 259 → a ≠ o + 2 → ∀ k, hp_r h1 a k = hp_r h a k := fun a h1 h2 h3 k => (x a h2).2.2.2.2 k
  refine ⟨old_O x hn (by (try unfold ca); (try unfold la); omega) (sc_o S), old_A x hn (by (try unfold ca); (try unfold la); omega) (sc_a1 S), old_A x hn (by (try unfold ca); (try unfold la); omega) (sc_a2 S), fun j hj => ?_, old_A x hn (by (try unfold ca); (try unfold la); omega) (sc_a243 S), fun l hl => ?_, ?_, old_A x hn (by (try unfold ca); (try unfold la); omega) (sc_a258 S), ?_, ?_, ?_, ?_, ?_⟩
  · obtain ⟨a0, a1, a2, a3, a4, a5, r0, r1, r2, r3, r4, r5⟩ := sc_c S j hj
    have er : ∀ k, hp_r h1 (ca o j) k = hp_r h (ca o j) k := e0 _ (by unfold ca; omega) (by unfold ca; omega) (by unfold ca; omega)
    exact ⟨old_O x hn (by (try unfold ca); (try unfold la); omega) (a0), old_A x hn (by (try unfold ca); (try unfold la); omega) (a1), old_A x hn (by (try unfold ca); (try unfold la); omega) (a2), old_A x hn (by (try unfold ca); (try unfold la); omega) (a3), old_A x hn (by (try unfold ca); (try unfold la); omega) (a4), old_A x hn (by (try unfold ca); (try unfold la); omega) (a5), trivial, (er 0).trans r1, (er 1).trans r2, (er 2).trans r3, (er 3).trans r4, (er 4).trans r5⟩
  · obtain ⟨a0, a1, r0, r1⟩ := sc_l S l hl
    exact ⟨old_O x hn (by (try unfold ca); (try unfold la); omega) (a0), old_A x hn (by (try unfold ca); (try unfold la); omega) (a1), (e0 _ (by unfold la; omega) (by unfold la; omega) (by unfold la; omega) 0).trans r0, (e0 _ (by omega) (by omega) (by omega) l).trans r1⟩
  · obtain ⟨a0, a1, a2, a3, a4, a5, r0, r1, r2, r3, r4⟩ := sc_g S
    have er : ∀ k, hp_r h1 (o + 252) k = hp_r h (o + 252) k := e0 _ (by omega) (by omega) (by omega)
    exact ⟨old_O x hn (by (try unfold ca); (try unfold la); omega) (a0), old_A x hn (by (try unfold ca); (try unfold la); omega) (a1), old_A x hn (by (try unfold ca); (try unfold la); omega) (a2), old_A x hn (by (try unfold ca); (try unfold la); omega) (a3), old_A x hn (by (try unfold ca); (try unfold la); omega) (a4), old_A x hn (by (try unfold ca); (try unfold la); omega) (a5), (er 0).trans r0, (er 1).trans r1, (er 2).trans r2, (er 3).trans r3, (er 4).trans r4⟩
  · exact (e0 o (by omega) (by omega) (by omega) 1).trans (sc_told S)
  · exact (e0 o (by omega) (by omega) (by omega) 3).trans (sc_lkrs S)
  · exact (e0 o (by omega) (by omega) (by omega) 5).trans (sc_rates S)
  · exact (e0 o (by omega) (by omega) (by omega) 7).trans (sc_looks S)
  · exact (e0 o (by omega) (by omega) (by omega) 11).trans (sc_gone S)
theorem pc_old {g : Gx} {h h1 : Hp} {o : Nat} {p : Nat → Nat} {s : St} (P : PC g h o p s) (x : old (o + 259) h h1) (hn : hp_n h ≤ hp_n h1) : PC g h1 o p s :=
  pc_eq P (sc_old (pc_S P) x hn) (fun a h1 h2 j => (x a (by omega)).2.2.1 j) (fun a h1 h2 j => (x a (by omega)).2.2.2.1 j) (fun a h1 h2 j => (x a h2).2.2.2.2 j)
theorem clmp_b (c : Int32) : 1 ≤ clmp c ∧ clmp c ≤ 65536 := by
  unfold clmp
  by_cases h1 : c < 1
  · rw [if_pos h1]; decide
  · rw [if_neg h1]
    by_cases h2 : 65536 < c
    · rw [if_pos h2]; decide
    · rw [if_neg h2]
      obtain ⟨k, hk, e⟩ := nI_of (x := c) (fun z => h1 (Int32.lt_trans z (by decide)))
      have e2 : c.toNatClampNeg = k := by rw [e]; exact nI_clamp hk
      rw [e2]
      constructor
      · refine Nat.not_lt.mp (fun z => h1 ?_)
        rw [e, ← nI_one]; exact nI_lt z (by decide)
      · refine Nat.not_lt.mp (fun z => h2 ?_)
        rw [e, show (65536 : Int32) = nI 65536 by decide +kernel]; exact nI_lt z hk
/-- the script's first int, or 0 -/
def fst_x (g : Gx) : Int32 := if 0 < gx_L g then gx_x g 0 else 0
theorem c_W_cell {g : Gx} {h : Hp} {d : Nat} {Q : Option Value → Hp → Prop} (hL : gx_L g ≤ 3585) (hQ : Q (some (.int (fst_x g))) h) : Ct g M_W_cell d 0 0 [.ref (gx_b g), .int (nI 0)] h Q := by
  refine ct_of ok_W_cell (by decide) (Nat.le_of_ble_eq_true rfl) [some (.ref (gx_b g)), some (.int (nI 0))] rfl rfl ?_
  unfold fst_x at hQ
  refine k_iload_n rfl rfl ?_
  refine k_aload_n rfl rfl ?_
  refine k_slen rfl ?_
  refine kn_ge rfl (by omega) (by omega) (fun cc => ?_) (fun cc => ?_)
  · rw [if_neg (by omega)] at hQ
    refine k_iconst (v := 0) rfl (by decide) ?_
    refine k_iret rfl rfl (Nat.le_refl _) (Nat.le_refl _) ?_
    exact hQ
  · rw [if_pos cc] at hQ
    refine k_aload_n rfl rfl ?_
    refine k_iload_n rfl rfl ?_
    refine k_sld rfl rfl (by omega) (by omega) ?_
    refine k_goto rfl ?_
    refine k_iret rfl rfl (Nat.le_refl _) (Nat.le_refl _) ?_
    exact hQ
theorem law_start {g : Gx} {h0 : Hp} (hL : gx_L g ≤ 3585) (hn0 : hp_n h0 = gx_B g) : Ok g M_Wh room_1 (Zw g) 0 0 h0 0 [some (.ref (gx_b g)), none, none, none] [] := by
  obtain ⟨o, eo⟩ : ∃ o, o = hp_n h0 := ⟨_, rfl⟩
  refine k_new (ci := 3) (N := 12) rfl wd_7 wd_8 wd_1 rfl (by decide +kernel) (by decide) (Nat.le_of_ble_eq_true rfl) (Nat.le_of_ble_eq_true rfl) ?_
  rw [← eo]
  refine k_dup rfl rfl ?_
  refine k_aload_n rfl rfl ?_
  refine k_iconst (v := nI 0) rfl (by decide) ?_
  refine k_callS (M1 := M_W_cell) (As := [.ref (gx_b g), .int (nI 0)]) (mc := 0) (ms := 0) (d := 100) rfl rfl rfl (Nat.le_of_ble_eq_true rfl) (Nat.le_of_ble_eq_true rfl) (Nat.le_of_ble_eq_true rfl) (rm_room (by decide)) wd_368 cw_W_cell ?_
  refine c_W_cell hL ?_
  refine k_callI (M1 := M_S_init) (As := [.int (fst_x g)]) (b := o) (mc := 258) (ms := 3050) (d := 100) rfl rfl rfl (Nat.le_of_ble_eq_true rfl) (Nat.le_of_ble_eq_true rfl) (Nat.le_of_ble_eq_true rfl) (rm_room (by decide)) wd_9 cw_S_init ?_
  refine c_S_init (h := hp_new h0 (.inl 3) 0) (o := o) (by show hp_n h0 + 1 = _; rw [eo]) ⟨by omega, by rw [eo]; exact Nat.lt_succ_self _, by rw [eo]; exact va_up_self _ _ _⟩ (fun q => by rw [eo]; exact if_pos rfl) (fun q => by rw [eo]; exact if_pos rfl) (fun q => by rw [eo]; exact if_pos rfl) (fun h1 n1 x1 P1 => ?_)
  refine k_ast1 rfl rfl ?_
  refine k_new (ci := 4) (N := 21) rfl wd_371 wd_372 wd_5 rfl (by decide +kernel) (by decide) (Nat.le_of_ble_eq_true rfl) (Nat.le_of_ble_eq_true rfl) ?_
  rw [n1]
  refine k_dup rfl rfl ?_
  refine k_aload_n rfl rfl ?_
  refine k_iconst (v := nI 0) rfl (by decide) ?_
  refine k_callS (M1 := M_W_cell) (As := [.ref (gx_b g), .int (nI 0)]) (mc := 0) (ms := 0) (d := 100) rfl rfl rfl (Nat.le_of_ble_eq_true rfl) (Nat.le_of_ble_eq_true rfl) (Nat.le_of_ble_eq_true rfl) (rm_room (by decide)) wd_368 cw_W_cell ?_
  refine c_W_cell hL ?_
  refine k_callI (M1 := M_R_init) (As := [.int (fst_x g)]) (b := (o + 259)) (mc := 13) (ms := 1624) (d := 100) rfl rfl rfl (Nat.le_of_ble_eq_true rfl) (Nat.le_of_ble_eq_true rfl) (Nat.le_of_ble_eq_true rfl) (rm_room (by decide)) wd_373 cw_R_init ?_
  have P2 := pc_old P1 (old_hn (kd := .inl 4) (len := 0) (by omega)) (Nat.le_succ _)
  refine c_R_init (h := hp_new h1 (.inl 4) 0) (m := o + 259) (by show hp_n h1 + 1 = _; rw [n1]) ⟨by omega, by rw [← n1]; exact Nat.lt_succ_self _, by rw [← n1]; exact va_up_self _ _ _⟩ (fun q => by rw [← n1]; exact if_pos rfl) (fun q => by rw [← n1]; exact if_pos rfl) (fun h2 n2 x2 R2 => ?_)
  have P3 := pc_old P2 x2 (by rw [n2]; show hp_n h1 + 1 ≤ _; omega)
  refine k_ast2 rfl rfl ?_
  refine k_iconst (v := nI 1) rfl (by decide) ?_
  refine k_ist3 rfl rfl ?_
  exact law_loop (o := o) hL (gx_L g + 8) 1 h2 (by omega) (by omega) (Nat.le_refl _) ⟨_, _, P3, R2, Inv_ini (clmp_b _), fun _ => rfl⟩
