/-- what the law comes to, from a start whose heap and script are g's -/
def Zw (g : Gx) : Zx := fun below args s t => s.heap.size = gx_B g → args = #[Value.ref (gx_b g)] → lw_Z below args s t
theorem k_wend {g : Gx} {h : Hp} {L : List (Option Value)} : Ok g M_Wh room_1 (Zw g) 273 4707 h 1089 L [.int 1] := by
  intro p e s m args below meth c H locs ls C hW hF hl
  intro T hT X
  by_cases z : s.heap.size = gx_B g ∧ args = #[Value.ref (gx_b g)]
  · obtain ⟨z1, z2⟩ := z
    subst z2
    have hd := (md_dec C.2.2.2.2.2.2.2.2.2.2 (M := M_Wh) (pc := 1089) rfl).1
    have K := va_forget (fun q hq => by rw [z1]; exact hF q hq) (W.widen (k := 600000) (n := 7302250) (show 273 ≤ 600000 by decide) (show 4707 ≤ 7302250 by decide) (lw_ret (m := m) (l := gx_l g) (e := e) (below := below) (b := gx_b g) (H := H) (ls := ls) C.1 C.2.1 C.2.2.2.1 C.2.2.2.2.2.2.1 hd))
    obtain ⟨t, a, b⟩ := K T hT X
    exact ⟨t, a, fun _ _ => b⟩
  · exact ⟨_, Steps.refl _, fun z1 z2 => absurd ⟨z1, z2⟩ z⟩
theorem sub_gt {L i : Nat} (hL : L < 2 ^ 30) (hi : i < 2 ^ 30) : (nI L - nI 7 < nI i) ↔ (L < i + 7) := by
  rw [Int32.lt_iff_toInt_lt, pk_sub_toInt hL (by decide), nI_toInt (by omega)]
  omega
set_option maxRecDepth 10000 in
theorem law_loop {g : Gx} {o : Nat} (hL : gx_L g ≤ 3585) : ∀ (n i : Nat) (h : Hp), gx_L g + 8 ≤ i + n → i ≤ gx_L g + 7 → 1 ≤ i → LI g h o i → Ok g M_Wh room_1 (Zw g) 273 4707 h 28 [some (.ref (gx_b g)), some (.ref o), some (.ref (o + 259)), some (.int (nI i))] [] := by
  have hLb : gx_L g < 2147483648 := by omega
  intro n
  induction n with
  | zero => intro i h h1 h2 _ _; omega
  | succ n ih =>
    intro i h h1 h2 hi1 H
    have CN : ∀ h1, LI g h1 o (i + 7) → i + 7 ≤ gx_L g → Ok g M_Wh room_1 (Zw g) 273 4707 h1 1082 [some (.ref (gx_b g)), some (.ref o), some (.ref (o + 259)), some (.int (nI i))] [] := by
      intro h1 H1 hi7
      refine k_iinc (v := nI (i + 7)) rfl rfl (nI_add i 7) rfl rfl ?_
      refine k_goto rfl ?_
      exact ih (i + 7) h1 (by omega) (by omega) (by omega) H1
    refine k_iload_n rfl rfl ?_
    refine k_aload_n rfl rfl ?_
    refine k_slen rfl ?_
    refine k_bipush (v := nI 7) rfl (by decide) ?_
    refine k_isub rfl ?_
    refine k_icmp_gt rfl (fun c9 => ?_) (fun c9 => ?_)
    · refine k_iconst (v := 1) rfl (by decide) ?_
      exact k_wend
    · have hi7 : i + 7 ≤ gx_L g := Nat.not_lt.mp (fun z => c9 ((sub_gt (by omega) (by omega)).mpr z))
      refine k_aload_n rfl rfl ?_
      refine k_iload_n rfl rfl ?_
      refine k_sld rfl rfl (by omega) hLb ?_
      refine k_bipush (v := nI 31) rfl (by decide) ?_
      refine k_iand rfl ?_
      obtain ⟨v, ev⟩ : ∃ v, v = gx_x g i &&& nI 31 := ⟨_, rfl⟩
      rw [← ev]
      clear ev
      by_cases w0 : v.toInt < 0 ∨ 21 < v.toInt
      · refine k_tswO (tgt := 1082) rfl w0 (by decide) ?_
        exact CN h (LI_nx H) hi7
      · obtain ⟨k, hk, ek⟩ : ∃ k : Nat, k ≤ 21 ∧ v.toInt = (k : Int) := ⟨v.toInt.toNat, by omega, by omega⟩
        match k, hk, ek with
        | 0, hk, ek =>
          refine k_tswI (off := 101) (tgt := 144) rfl (by omega) (by omega) (by rw [ek]; rfl) (by decide) ?_
          refine Ok_tbl (M1 := M_W0) rfl rfl rfl rfl ok_W0 (lwc_0 hL hLb hi1 (by omega) H (fun h1 H1 => Ok_tbl (M1 := M_Wh) rfl rfl rfl rfl ok_Wh (CN h1 H1 hi7)))
        | 1, hk, ek =>
          refine k_tswI (off := 164) (tgt := 207) rfl (by omega) (by omega) (by rw [ek]; rfl) (by decide) ?_
          refine Ok_tbl (M1 := M_W1) rfl rfl rfl rfl ok_W1 (lwc_1 hL hLb hi1 (by omega) H (fun h1 H1 => Ok_tbl (M1 := M_Wh) rfl rfl rfl rfl ok_Wh (CN h1 H1 hi7)))
        | 2, hk, ek =>
          refine k_tswI (off := 197) (tgt := 240) rfl (by omega) (by omega) (by rw [ek]; rfl) (by decide) ?_
          refine Ok_tbl (M1 := M_W2) rfl rfl rfl rfl ok_W2 (lwc_2 hL hLb hi1 (by omega) H (fun h1 H1 => Ok_tbl (M1 := M_Wh) rfl rfl rfl rfl ok_Wh (CN h1 H1 hi7)))
        | 3, hk, ek =>
          refine k_tswI (off := 300) (tgt := 343) rfl (by omega) (by omega) (by rw [ek]; rfl) (by decide) ?_
          refine Ok_tbl (M1 := M_W3) rfl rfl rfl rfl ok_W3 (lwc_3 hL hLb hi1 (by omega) H (fun h1 H1 => Ok_tbl (M1 := M_Wh) rfl rfl rfl rfl ok_Wh (CN h1 H1 hi7)))
        | 4, hk, ek =>
          refine k_tswI (off := 333) (tgt := 376) rfl (by omega) (by omega) (by rw [ek]; rfl) (by decide) ?_
          refine Ok_tbl (M1 := M_W4) rfl rfl rfl rfl ok_W4 (lwc_4 hL hLb hi1 (by omega) H (fun h1 H1 => Ok_tbl (M1 := M_Wh) rfl rfl rfl rfl ok_Wh (CN h1 H1 hi7)))
        | 5, hk, ek =>
          refine k_tswI (off := 356) (tgt := 399) rfl (by omega) (by omega) (by rw [ek]; rfl) (by decide) ?_
          refine Ok_tbl (M1 := M_W5) rfl rfl rfl rfl ok_W5 (lwc_5 hL hLb hi1 (by omega) H (fun h1 H1 => Ok_tbl (M1 := M_Wh) rfl rfl rfl rfl ok_Wh (CN h1 H1 hi7)))
        | 6, hk, ek =>
          refine k_tswI (off := 389) (tgt := 432) rfl (by omega) (by omega) (by rw [ek]; rfl) (by decide) ?_
          refine Ok_tbl (M1 := M_W6) rfl rfl rfl rfl ok_W6 (lwc_6 hL hLb hi1 (by omega) H (fun h1 H1 => Ok_tbl (M1 := M_Wh) rfl rfl rfl rfl ok_Wh (CN h1 H1 hi7)))
        | 7, hk, ek =>
          refine k_tswI (off := 402) (tgt := 445) rfl (by omega) (by omega) (by rw [ek]; rfl) (by decide) ?_
          refine Ok_tbl (M1 := M_W7) rfl rfl rfl rfl ok_W7 (lwc_7 hL hLb hi1 (by omega) H (fun h1 H1 => Ok_tbl (M1 := M_Wh) rfl rfl rfl rfl ok_Wh (CN h1 H1 hi7)))
        | 8, hk, ek =>
          refine k_tswI (off := 517) (tgt := 560) rfl (by omega) (by omega) (by rw [ek]; rfl) (by decide) ?_
          refine Ok_tbl (M1 := M_W8) rfl rfl rfl rfl ok_W8 (lwc_8 hL hLb hi1 (by omega) H (fun h1 H1 => Ok_tbl (M1 := M_Wh) rfl rfl rfl rfl ok_Wh (CN h1 H1 hi7)))
        | 9, hk, ek =>
          refine k_tswI (off := 550) (tgt := 593) rfl (by omega) (by omega) (by rw [ek]; rfl) (by decide) ?_
          refine Ok_tbl (M1 := M_W9) rfl rfl rfl rfl ok_W9 (lwc_9 hL hLb hi1 (by omega) H (fun h1 H1 => Ok_tbl (M1 := M_Wh) rfl rfl rfl rfl ok_Wh (CN h1 H1 hi7)))
        | 10, hk, ek =>
          refine k_tswI (off := 563) (tgt := 606) rfl (by omega) (by omega) (by rw [ek]; rfl) (by decide) ?_
          refine Ok_tbl (M1 := M_W10) rfl rfl rfl rfl ok_W10 (lwc_10 hL hLb hi1 (by omega) H (fun h1 H1 => Ok_tbl (M1 := M_Wh) rfl rfl rfl rfl ok_Wh (CN h1 H1 hi7)))
        | 11, hk, ek =>
          refine k_tswI (off := 586) (tgt := 629) rfl (by omega) (by omega) (by rw [ek]; rfl) (by decide) ?_
          refine Ok_tbl (M1 := M_W11) rfl rfl rfl rfl ok_W11 (lwc_11 hL hLb hi1 (by omega) H (fun h1 H1 => Ok_tbl (M1 := M_Wh) rfl rfl rfl rfl ok_Wh (CN h1 H1 hi7)))
        | 12, hk, ek =>
          refine k_tswI (off := 629) (tgt := 672) rfl (by omega) (by omega) (by rw [ek]; rfl) (by decide) ?_
          refine Ok_tbl (M1 := M_W12) rfl rfl rfl rfl ok_W12 (lwc_12 hL hLb hi1 (by omega) H (fun h1 H1 => Ok_tbl (M1 := M_Wh) rfl rfl rfl rfl ok_Wh (CN h1 H1 hi7)))
        | 13, hk, ek =>
          refine k_tswI (off := 652) (tgt := 695) rfl (by omega) (by omega) (by rw [ek]; rfl) (by decide) ?_
          refine Ok_tbl (M1 := M_W13) rfl rfl rfl rfl ok_W13 (lwc_13 hL hLb hi1 (by omega) H (fun h1 H1 => Ok_tbl (M1 := M_Wh) rfl rfl rfl rfl ok_Wh (CN h1 H1 hi7)))
        | 14, hk, ek =>
          refine k_tswI (off := 695) (tgt := 738) rfl (by omega) (by omega) (by rw [ek]; rfl) (by decide) ?_
          refine Ok_tbl (M1 := M_W14) rfl rfl rfl rfl ok_W14 (lwc_14 hL hLb hi1 (by omega) H (fun h1 H1 => Ok_tbl (M1 := M_Wh) rfl rfl rfl rfl ok_Wh (CN h1 H1 hi7)))
        | 15, hk, ek =>
          refine k_tswI (off := 708) (tgt := 751) rfl (by omega) (by omega) (by rw [ek]; rfl) (by decide) ?_
          refine Ok_tbl (M1 := M_W15) rfl rfl rfl rfl ok_W15 (lwc_15 hL hLb hi1 (by omega) H (fun h1 H1 => Ok_tbl (M1 := M_Wh) rfl rfl rfl rfl ok_Wh (CN h1 H1 hi7)))
        | 16, hk, ek =>
          refine k_tswI (off := 781) (tgt := 824) rfl (by omega) (by omega) (by rw [ek]; rfl) (by decide) ?_
          refine Ok_tbl (M1 := M_W16) rfl rfl rfl rfl ok_W16 (lwc_16 hL hLb hi1 (by omega) H (fun h1 H1 => Ok_tbl (M1 := M_Wh) rfl rfl rfl rfl ok_Wh (CN h1 H1 hi7)))
        | 17, hk, ek =>
          refine k_tswI (off := 874) (tgt := 917) rfl (by omega) (by omega) (by rw [ek]; rfl) (by decide) ?_
          refine Ok_tbl (M1 := M_W17) rfl rfl rfl rfl ok_W17 (lwc_17 hL hLb hi1 (by omega) H (fun h1 H1 => Ok_tbl (M1 := M_Wh) rfl rfl rfl rfl ok_Wh (CN h1 H1 hi7)))
        | 18, hk, ek =>
          refine k_tswI (off := 887) (tgt := 930) rfl (by omega) (by omega) (by rw [ek]; rfl) (by decide) ?_
          refine Ok_tbl (M1 := M_W18) rfl rfl rfl rfl ok_W18 (lwc_18 hL hLb hi1 (by omega) H (fun h1 H1 => Ok_tbl (M1 := M_Wh) rfl rfl rfl rfl ok_Wh (CN h1 H1 hi7)))
        | 19, hk, ek =>
          refine k_tswI (off := 910) (tgt := 953) rfl (by omega) (by omega) (by rw [ek]; rfl) (by decide) ?_
          refine Ok_tbl (M1 := M_W19) rfl rfl rfl rfl ok_W19 (lwc_19 hL hLb hi1 (by omega) H (fun h1 H1 => Ok_tbl (M1 := M_Wh) rfl rfl rfl rfl ok_Wh (CN h1 H1 hi7)))
        | 20, hk, ek =>
          refine k_tswI (off := 943) (tgt := 986) rfl (by omega) (by omega) (by rw [ek]; rfl) (by decide) ?_
          refine Ok_tbl (M1 := M_W20) rfl rfl rfl rfl ok_W20 (lwc_20 hL hLb hi1 (by omega) H (fun h1 H1 => Ok_tbl (M1 := M_Wh) rfl rfl rfl rfl ok_Wh (CN h1 H1 hi7)))
        | 21, hk, ek =>
          refine k_tswI (off := 976) (tgt := 1019) rfl (by omega) (by omega) (by rw [ek]; rfl) (by decide) ?_
          refine Ok_tbl (M1 := M_W21) rfl rfl rfl rfl ok_W21 (lwc_21 hL hLb hi1 (by omega) H (fun h1 H1 => Ok_tbl (M1 := M_Wh) rfl rfl rfl rfl ok_Wh (CN h1 H1 hi7)))
        | k + 22, hk, ek => omega
