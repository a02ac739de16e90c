/-- odds, as the class has them -/
def odC (s : St) (c q : Int32) : Int64 := cond (isc (nI (s_cells s)) c) (match s_seen s with
  | some y => ptI (if nI y = c then 1 else 0) 1 q
  | none => ptI (opN (plS s c) (s_cn s 0)) (alN s (s_told s)) q) (-1)
theorem c_S_odds {g : Gx} {h : Hp} {o d : Nat} {p : Nat → Nat} {s : St} {Q : Option Value → Hp → Prop} (P : PC g h o p s) (I : Inv s) (c q : Int32) (hQ : Q (some (.long (odC s c q))) h) : Ct g M_S_odds (d + 5) 0 0 [.ref o, .int c, .int q] h Q := by
  have S := pc_S P
  have bT := v_told I
  have bL := v_lkr I
  refine ct_of ok_S_odds (by decide) (Nat.le_of_ble_eq_true rfl) [some (.ref o), some (.int c), some (.int q), none] rfl rfl ?_
  have hal := alN_le I (s_told s) (Nat.le_refl _)
  have hcb := v_cells I
  unfold odC at hQ
  cases hs : s_seen s with
  | some y =>
    have hy := v_seen I y hs
    rw [hs] at hQ
    simp only at hQ
    refine k_aload_n rfl rfl ?_
    refine k_iload_n rfl rfl ?_
    refine k_cV1 rfl cw_S_isCell wd_164 (sc_o S) rfl (by decide) (Nat.le_of_ble_eq_true rfl) ?_
    refine c_S_isCell P I c ?_
    refine kb_eq rfl (fun c5 => ?_) (fun c5 => ?_)
    · refine k_ldc2 rfl wd_188 ?_
      refine k_lret rfl rfl (Nat.le_refl _) (Nat.le_refl _) ?_
      rw [c5] at hQ; exact hQ
    · refine k_iload_n rfl rfl ?_
      refine k_cS1 rfl cw_S_isZeroOrOne wd_185 (by decide) (Nat.le_of_ble_eq_true rfl) ?_
      refine c_S_isZeroOrOne q ?_
      refine kb_ne rfl (fun c12 => ?_) (fun c12 => ?_)
      · refine k_aload_n rfl rfl ?_
        refine k_gI (x := nI y) rfl rfl (sc_o S) ((pc_seen P).trans (by rw [hs]; rfl)) ?_
        refine k_iconst (v := -1) rfl (by decide) ?_
        refine k_icmp_eq rfl (fun c24 => ?_) (fun c24 => ?_)
        · exact absurd c24 (nI_m1 (by omega))
        · refine k_iload_n rfl rfl ?_
          refine k_aload_n rfl rfl ?_
          refine k_gI (x := nI y) rfl rfl (sc_o S) ((pc_seen P).trans (by rw [hs]; rfl)) ?_
          refine k_icmp_ne rfl (fun c32 => ?_) (fun c32 => ?_)
          · refine k_lconst (v := lN 0) rfl (by decide) ?_
            refine k_lconst (v := lN 1) rfl (by decide) ?_
            refine k_iload_n rfl rfl ?_
            refine k_cS3 rfl cw_S_fraction wd_189 (by decide) (Nat.le_of_ble_eq_true rfl) ?_
            refine c_S_fraction (by decide) (by decide) (z01 c12) ?_
            refine k_lret rfl rfl (Nat.le_refl _) (Nat.le_refl _) ?_
            rw [c5, if_neg (fun z => c32 z.symm)] at hQ; exact hQ
          · refine k_lconst (v := lN 1) rfl (by decide) ?_
            refine k_goto rfl ?_
            refine k_lconst (v := lN 1) rfl (by decide) ?_
            refine k_iload_n rfl rfl ?_
            refine k_cS3 rfl cw_S_fraction wd_189 (by decide) (Nat.le_of_ble_eq_true rfl) ?_
            refine c_S_fraction (by decide) (by decide) (z01 c12) ?_
            refine k_lret rfl rfl (Nat.le_refl _) (Nat.le_refl _) ?_
            rw [c5, if_pos c32.symm] at hQ; exact hQ
      · refine k_ldc2 rfl wd_188 ?_
        refine k_lret rfl rfl (Nat.le_refl _) (Nat.le_refl _) ?_
        rw [c5, pt_m1 c12] at hQ; exact hQ
  | none =>
    rw [hs] at hQ
    cases hp : plS s c with
    | none =>
      rw [hp] at hQ
      refine k_aload_n rfl rfl ?_
      refine k_iload_n rfl rfl ?_
      refine k_cV1 rfl cw_S_isCell wd_164 (sc_o S) rfl (by decide) (Nat.le_of_ble_eq_true rfl) ?_
      refine c_S_isCell P I c ?_
      refine kb_eq rfl (fun c5 => ?_) (fun c5 => ?_)
      · refine k_ldc2 rfl wd_188 ?_
        refine k_lret rfl rfl (Nat.le_refl _) (Nat.le_refl _) ?_
        rw [c5] at hQ; exact hQ
      · refine k_iload_n rfl rfl ?_
        refine k_cS1 rfl cw_S_isZeroOrOne wd_185 (by decide) (Nat.le_of_ble_eq_true rfl) ?_
        refine c_S_isZeroOrOne q ?_
        refine kb_ne rfl (fun c12 => ?_) (fun c12 => ?_)
        · refine k_aload_n rfl rfl ?_
          refine k_gI (x := -1) rfl rfl (sc_o S) ((pc_seen P).trans (by rw [hs]; rfl)) ?_
          refine k_iconst (v := -1) rfl (by decide) ?_
          refine k_icmp_eq rfl (fun c24 => ?_) (fun c24 => ?_)
          · refine k_aload_n rfl rfl ?_
            refine k_iload_n rfl rfl ?_
            refine k_cV1 rfl cw_S_placeOf wd_173 (sc_o S) rfl (by decide) (Nat.le_of_ble_eq_true rfl) ?_
            refine c_S_placeOf P I c ?_
            rw [hp]
            refine k_ist3 rfl rfl ?_
            refine k_iload_n rfl rfl ?_
            refine k_iconst (v := -1) rfl (by decide) ?_
            refine k_icmp_ne rfl (fun c54 => ?_) (fun c54 => ?_)
            · exact absurd rfl c54
            · refine k_lconst (v := lN 0) rfl (by decide) ?_
              refine k_goto rfl ?_
              refine k_aload_n rfl rfl ?_
              refine k_cV0 rfl cw_S_allCounts wd_195 (sc_o S) rfl (by decide) (Nat.le_of_ble_eq_true rfl) ?_
              refine c_S_allCounts P I ?_
              refine k_iload_n rfl rfl ?_
              refine k_cS3 rfl cw_S_fraction wd_189 (by decide) (Nat.le_of_ble_eq_true rfl) ?_
              refine c_S_fraction (by decide) (by omega) (z01 c12) ?_
              refine k_lret rfl rfl (Nat.le_refl _) (Nat.le_refl _) ?_
              rw [c5] at hQ; exact hQ
          · exact absurd rfl c24
        · refine k_ldc2 rfl wd_188 ?_
          refine k_lret rfl rfl (Nat.le_refl _) (Nat.le_refl _) ?_
          rw [c5] at hQ; simp only [cond_true] at hQ; rw [pt_m1 c12] at hQ; exact hQ
    | some i =>
      have hk := plS_lt hp
      have hpi := (pc_m P).1 i (by omega)
      have hc := v_cn I 0 i (by decide) hk
      have hm0 := m0_le I hk
      rw [hp] at hQ
      refine k_aload_n rfl rfl ?_
      refine k_iload_n rfl rfl ?_
      refine k_cV1 rfl cw_S_isCell wd_164 (sc_o S) rfl (by decide) (Nat.le_of_ble_eq_true rfl) ?_
      refine c_S_isCell P I c ?_
      refine kb_eq rfl (fun c5 => ?_) (fun c5 => ?_)
      · refine k_ldc2 rfl wd_188 ?_
        refine k_lret rfl rfl (Nat.le_refl _) (Nat.le_refl _) ?_
        rw [c5] at hQ; exact hQ
      · refine k_iload_n rfl rfl ?_
        refine k_cS1 rfl cw_S_isZeroOrOne wd_185 (by decide) (Nat.le_of_ble_eq_true rfl) ?_
        refine c_S_isZeroOrOne q ?_
        refine kb_ne rfl (fun c12 => ?_) (fun c12 => ?_)
        · refine k_aload_n rfl rfl ?_
          refine k_gI (x := -1) rfl rfl (sc_o S) ((pc_seen P).trans (by rw [hs]; rfl)) ?_
          refine k_iconst (v := -1) rfl (by decide) ?_
          refine k_icmp_eq rfl (fun c24 => ?_) (fun c24 => ?_)
          · refine k_aload_n rfl rfl ?_
            refine k_iload_n rfl rfl ?_
            refine k_cV1 rfl cw_S_placeOf wd_173 (sc_o S) rfl (by decide) (Nat.le_of_ble_eq_true rfl) ?_
            refine c_S_placeOf P I c ?_
            rw [hp]
            refine k_ist3 rfl rfl ?_
            refine k_iload_n rfl rfl ?_
            refine k_iconst (v := -1) rfl (by decide) ?_
            refine k_icmp_ne rfl (fun c54 => ?_) (fun c54 => ?_)
            · refine k_aload_n rfl rfl ?_
              refine k_getR rfl rfl (sc_o S) (sc_told S) ?_
              refine k_iload_n rfl rfl ?_
              refine k_aald (q := ca o (p i)) rfl (sc_a2 S) rfl (by decide) rfl (by omega) (by decide) (pc_r P i (by omega)) ?_
              refine k_getR rfl rfl (sc_c S (p i) hpi).1 (sc_c S (p i) hpi).2.2.2.2.2.2.2.1 ?_
              refine k_iconst (v := nI 0) rfl (by decide) ?_
              refine k_iA rfl (sc_c S (p i) hpi).2.1 (j := 0) rfl (by decide) (by decide) ((pc_t P i hk).2.2.2.1 0 (by decide)) ?_
              refine k_i2lN rfl (by omega) ?_
              refine k_aload_n rfl rfl ?_
              refine k_cV0 rfl cw_S_allCounts wd_195 (sc_o S) rfl (by decide) (Nat.le_of_ble_eq_true rfl) ?_
              refine c_S_allCounts P I ?_
              refine k_iload_n rfl rfl ?_
              refine k_cS3 rfl cw_S_fraction wd_189 (by decide) (Nat.le_of_ble_eq_true rfl) ?_
              refine c_S_fraction (by omega) (by omega) (z01 c12) ?_
              refine k_lret rfl rfl (Nat.le_refl _) (Nat.le_refl _) ?_
              rw [c5] at hQ; exact hQ
            · exact absurd c54 (nI_m1 (by omega))
          · exact absurd rfl c24
        · refine k_ldc2 rfl wd_188 ?_
          refine k_lret rfl rfl (Nat.le_refl _) (Nat.le_refl _) ?_
          rw [c5] at hQ; simp only [cond_true] at hQ; rw [pt_m1 c12] at hQ; exact hQ
theorem c_S_after {g : Gx} {h : Hp} {o d : Nat} {p : Nat → Nat} {s : St} {Q : Option Value → Hp → Prop} (P : PC g h o p s) (I : Inv s) (c q : Int32) (hQ : Q (some (.long (afS s c q))) h) : Ct g M_S_after (d + 5) 0 0 [.ref o, .int c, .int q] h Q := by
  have S := pc_S P
  have bT := v_told I
  have bL := v_lkr I
  refine ct_of ok_S_after (by decide) (Nat.le_of_ble_eq_true rfl) [some (.ref o), some (.int c), some (.int q), none] rfl rfl ?_
  have hal := lfN_le I (s_told s) (Nat.le_refl _)
  have hcb := v_cells I
  unfold afS at hQ
  cases hs : s_seen s with
  | some y =>
    have hy := v_seen I y hs
    rw [hs] at hQ
    simp only at hQ
    refine k_aload_n rfl rfl ?_
    refine k_iload_n rfl rfl ?_
    refine k_cV1 rfl cw_S_isCell wd_164 (sc_o S) rfl (by decide) (Nat.le_of_ble_eq_true rfl) ?_
    refine c_S_isCell P I c ?_
    refine kb_eq rfl (fun c5 => ?_) (fun c5 => ?_)
    · refine k_ldc2 rfl wd_188 ?_
      refine k_lret rfl rfl (Nat.le_refl _) (Nat.le_refl _) ?_
      rw [c5] at hQ; exact hQ
    · refine k_iload_n rfl rfl ?_
      refine k_cS1 rfl cw_S_isZeroOrOne wd_185 (by decide) (Nat.le_of_ble_eq_true rfl) ?_
      refine c_S_isZeroOrOne q ?_
      refine kb_ne rfl (fun c12 => ?_) (fun c12 => ?_)
      · refine k_aload_n rfl rfl ?_
        refine k_gI (x := nI y) rfl rfl (sc_o S) ((pc_seen P).trans (by rw [hs]; rfl)) ?_
        refine k_iconst (v := -1) rfl (by decide) ?_
        refine k_icmp_eq rfl (fun c24 => ?_) (fun c24 => ?_)
        · exact absurd c24 (nI_m1 (by omega))
        · refine k_iload_n rfl rfl ?_
          refine k_aload_n rfl rfl ?_
          refine k_gI (x := nI y) rfl rfl (sc_o S) ((pc_seen P).trans (by rw [hs]; rfl)) ?_
          refine k_icmp_ne rfl (fun c32 => ?_) (fun c32 => ?_)
          · refine k_lconst (v := lN 0) rfl (by decide) ?_
            refine k_lconst (v := lN 1) rfl (by decide) ?_
            refine k_iload_n rfl rfl ?_
            refine k_cS3 rfl cw_S_fraction wd_189 (by decide) (Nat.le_of_ble_eq_true rfl) ?_
            refine c_S_fraction (by decide) (by decide) (z01 c12) ?_
            refine k_lret rfl rfl (Nat.le_refl _) (Nat.le_refl _) ?_
            rw [c5, if_neg (fun z => c32 z.symm)] at hQ; exact hQ
          · refine k_lconst (v := lN 1) rfl (by decide) ?_
            refine k_goto rfl ?_
            refine k_lconst (v := lN 1) rfl (by decide) ?_
            refine k_iload_n rfl rfl ?_
            refine k_cS3 rfl cw_S_fraction wd_189 (by decide) (Nat.le_of_ble_eq_true rfl) ?_
            refine c_S_fraction (by decide) (by decide) (z01 c12) ?_
            refine k_lret rfl rfl (Nat.le_refl _) (Nat.le_refl _) ?_
            rw [c5, if_pos c32.symm] at hQ; exact hQ
      · refine k_ldc2 rfl wd_188 ?_
        refine k_lret rfl rfl (Nat.le_refl _) (Nat.le_refl _) ?_
        rw [c5, pt_m1 c12] at hQ; exact hQ
  | none =>
    rw [hs] at hQ
    cases hp : plS s c with
    | none =>
      rw [hp] at hQ
      refine k_aload_n rfl rfl ?_
      refine k_iload_n rfl rfl ?_
      refine k_cV1 rfl cw_S_isCell wd_164 (sc_o S) rfl (by decide) (Nat.le_of_ble_eq_true rfl) ?_
      refine c_S_isCell P I c ?_
      refine kb_eq rfl (fun c5 => ?_) (fun c5 => ?_)
      · refine k_ldc2 rfl wd_188 ?_
        refine k_lret rfl rfl (Nat.le_refl _) (Nat.le_refl _) ?_
        rw [c5] at hQ; exact hQ
      · refine k_iload_n rfl rfl ?_
        refine k_cS1 rfl cw_S_isZeroOrOne wd_185 (by decide) (Nat.le_of_ble_eq_true rfl) ?_
        refine c_S_isZeroOrOne q ?_
        refine kb_ne rfl (fun c12 => ?_) (fun c12 => ?_)
        · refine k_aload_n rfl rfl ?_
          refine k_gI (x := -1) rfl rfl (sc_o S) ((pc_seen P).trans (by rw [hs]; rfl)) ?_
          refine k_iconst (v := -1) rfl (by decide) ?_
          refine k_icmp_eq rfl (fun c24 => ?_) (fun c24 => ?_)
          · refine k_aload_n rfl rfl ?_
            refine k_iload_n rfl rfl ?_
            refine k_cV1 rfl cw_S_placeOf wd_173 (sc_o S) rfl (by decide) (Nat.le_of_ble_eq_true rfl) ?_
            refine c_S_placeOf P I c ?_
            rw [hp]
            refine k_ist3 rfl rfl ?_
            refine k_iload_n rfl rfl ?_
            refine k_iconst (v := -1) rfl (by decide) ?_
            refine k_icmp_ne rfl (fun c54 => ?_) (fun c54 => ?_)
            · exact absurd rfl c54
            · refine k_lconst (v := lN 0) rfl (by decide) ?_
              refine k_goto rfl ?_
              refine k_aload_n rfl rfl ?_
              refine k_cV0 rfl cw_S_allRemains wd_295 (sc_o S) rfl (by decide) (Nat.le_of_ble_eq_true rfl) ?_
              refine c_S_allRemains P I ?_
              refine k_iload_n rfl rfl ?_
              refine k_cS3 rfl cw_S_fraction wd_189 (by decide) (Nat.le_of_ble_eq_true rfl) ?_
              refine c_S_fraction (by decide) (by omega) (z01 c12) ?_
              refine k_lret rfl rfl (Nat.le_refl _) (Nat.le_refl _) ?_
              rw [c5] at hQ; exact hQ
          · exact absurd rfl c24
        · refine k_ldc2 rfl wd_188 ?_
          refine k_lret rfl rfl (Nat.le_refl _) (Nat.le_refl _) ?_
          rw [c5] at hQ; simp only [cond_true] at hQ; rw [pt_m1 c12] at hQ; exact hQ
    | some i =>
      have hk := plS_lt hp
      have hpi := (pc_m P).1 i (by omega)
      have hc := v_cn I 0 i (by decide) hk
      have hm0 := m0_le I hk
      rw [hp] at hQ
      refine k_aload_n rfl rfl ?_
      refine k_iload_n rfl rfl ?_
      refine k_cV1 rfl cw_S_isCell wd_164 (sc_o S) rfl (by decide) (Nat.le_of_ble_eq_true rfl) ?_
      refine c_S_isCell P I c ?_
      refine kb_eq rfl (fun c5 => ?_) (fun c5 => ?_)
      · refine k_ldc2 rfl wd_188 ?_
        refine k_lret rfl rfl (Nat.le_refl _) (Nat.le_refl _) ?_
        rw [c5] at hQ; exact hQ
      · refine k_iload_n rfl rfl ?_
        refine k_cS1 rfl cw_S_isZeroOrOne wd_185 (by decide) (Nat.le_of_ble_eq_true rfl) ?_
        refine c_S_isZeroOrOne q ?_
        refine kb_ne rfl (fun c12 => ?_) (fun c12 => ?_)
        · refine k_aload_n rfl rfl ?_
          refine k_gI (x := -1) rfl rfl (sc_o S) ((pc_seen P).trans (by rw [hs]; rfl)) ?_
          refine k_iconst (v := -1) rfl (by decide) ?_
          refine k_icmp_eq rfl (fun c24 => ?_) (fun c24 => ?_)
          · refine k_aload_n rfl rfl ?_
            refine k_iload_n rfl rfl ?_
            refine k_cV1 rfl cw_S_placeOf wd_173 (sc_o S) rfl (by decide) (Nat.le_of_ble_eq_true rfl) ?_
            refine c_S_placeOf P I c ?_
            rw [hp]
            refine k_ist3 rfl rfl ?_
            refine k_iload_n rfl rfl ?_
            refine k_iconst (v := -1) rfl (by decide) ?_
            refine k_icmp_ne rfl (fun c54 => ?_) (fun c54 => ?_)
            · refine k_aload_n rfl rfl ?_
              refine k_getR rfl rfl (sc_o S) (sc_told S) ?_
              refine k_iload_n rfl rfl ?_
              refine k_aald (q := ca o (p i)) rfl (sc_a2 S) rfl (by decide) rfl (by omega) (by decide) (pc_r P i (by omega)) ?_
              refine k_aload_n rfl rfl ?_
              refine k_getR rfl rfl (sc_o S) (sc_rates S) ?_
              refine k_cVN1 rfl cw_C_remains (nsM (i := 8) rfl) (sc_c S (p i) hpi).1 rfl (by decide) (Nat.le_of_ble_eq_true rfl) ?_
              refine c_C_remains I (cB_of P hk) (pc_t P i hk).2.2.2.2.2 ?_
              refine k_aload_n rfl rfl ?_
              refine k_cV0 rfl cw_S_allRemains wd_295 (sc_o S) rfl (by decide) (Nat.le_of_ble_eq_true rfl) ?_
              refine c_S_allRemains P I ?_
              refine k_iload_n rfl rfl ?_
              refine k_cS3 rfl cw_S_fraction wd_189 (by decide) (Nat.le_of_ble_eq_true rfl) ?_
              refine c_S_fraction (show m0 s i < 2 ^ 63 by omega) (by omega) (z01 c12) ?_
              refine k_lret rfl rfl (Nat.le_refl _) (Nat.le_refl _) ?_
              rw [c5] at hQ; exact hQ
            · exact absurd c54 (nI_m1 (by omega))
          · exact absurd rfl c24
        · refine k_ldc2 rfl wd_188 ?_
          refine k_lret rfl rfl (Nat.le_refl _) (Nat.le_refl _) ?_
          rw [c5] at hQ; simp only [cond_true] at hQ; rw [pt_m1 c12] at hQ; exact hQ
theorem c_S_stops {g : Gx} {h : Hp} {o d : Nat} {p : Nat → Nat} {s : St} {Q : Option Value → Hp → Prop} (P : PC g h o p s) (I : Inv s) (hQ : Q (some (.int (stS s))) h) : Ct g M_S_stops (d + 5) 0 0 [.ref o] h Q := by
  have S := pc_S P
  have bT := v_told I
  have bL := v_lkr I
  refine ct_of ok_S_stops (by decide) (Nat.le_of_ble_eq_true rfl) [some (.ref o), none, none] rfl rfl ?_
  have hal := alN_le I (s_told s) (Nat.le_refl _)
  have hlf := lfN_le I (s_told s) (Nat.le_refl _)
  have hab := v_ab I
  have hbl := v_bl I
  have hcb := v_cells I
  have hll : lfN s (s_told s) ≤ alN s (s_told s) * 268738560000 := lf_al s (s_told s)
  have b1 : (alN s (s_told s) * 268738560000 - lfN s (s_told s)) * s_bl s ≤ 10749542400000000 * 100 := Nat.mul_le_mul (show alN s (s_told s) * 268738560000 - lfN s (s_told s) ≤ 10749542400000000 by omega) hbl
  have b2 : s_ab s * (alN s (s_told s) * 268738560000) ≤ 100 * 10749542400000000 := Nat.mul_le_mul (show s_ab s ≤ 100 by omega) (show alN s (s_told s) * 268738560000 ≤ 10749542400000000 by omega)
  have eA : s_ab s * alN s (s_told s) * 268738560000 = s_ab s * (alN s (s_told s) * 268738560000) := Nat.mul_assoc _ _ _
  unfold stS at hQ
  rw [eA] at hQ
  refine k_aload_n rfl rfl ?_
  refine k_cV0 rfl cw_S_allCounts wd_195 (sc_o S) rfl (by decide) (Nat.le_of_ble_eq_true rfl) ?_
  refine c_S_allCounts P I ?_
  refine k_ldc2 rfl wd_308 ?_
  rw [lN_W]
  refine k_lmulN rfl ?_
  refine k_lst1 rfl rfl ?_
  refine k_aload_n rfl rfl ?_
  refine k_gL rfl rfl (sc_o S) (pc_bl P) ?_
  refine k_lconst (v := lN 0) rfl (by decide) ?_
  refine klN_eq rfl rfl (by omega) (by omega) (fun c14 => ?_) (fun c14 => ?_)
  · refine k_iconst (v := -1) rfl (by decide) ?_
    refine k_iret rfl rfl (Nat.le_refl _) (Nat.le_refl _) ?_
    rw [if_pos (Or.inl c14)] at hQ; exact hQ
  · refine k_lload_n rfl rfl ?_
    refine k_lconst (v := lN 0) rfl (by decide) ?_
    refine klN_ne rfl rfl (by omega) (by omega) (fun c20 => ?_) (fun c20 => ?_)
    · refine k_aload_n rfl rfl ?_
      refine k_gI rfl rfl (sc_o S) (pc_seen P) ?_
      refine k_iconst (v := -1) rfl (by decide) ?_
      refine k_icmp_eq rfl (fun c31 => ?_) (fun c31 => ?_)
      · have hse : ¬ s_seen s ≠ none := by
          cases hs : s_seen s with
          | none => simp
          | some q => rw [hs] at c31; exact absurd c31 (nI_m1 (by have := v_seen I q hs; omega))
        refine k_lload_n rfl rfl ?_
        refine k_aload_n rfl rfl ?_
        refine k_cV0 rfl cw_S_allRemains wd_295 (sc_o S) rfl (by decide) (Nat.le_of_ble_eq_true rfl) ?_
        refine c_S_allRemains P I ?_
        refine k_lsubN rfl hll ?_
        refine k_aload_n rfl rfl ?_
        refine k_gL rfl rfl (sc_o S) (pc_bl P) ?_
        refine k_lmulN rfl ?_
        refine k_aload_n rfl rfl ?_
        refine k_gL rfl rfl (sc_o S) (pc_ab P) ?_
        refine k_lload_n rfl rfl ?_
        refine k_lmulN rfl ?_
        refine klN_lt rfl rfl (by omega) (by omega) (fun c53 => ?_) (fun c53 => ?_)
        · refine k_iconst (v := nI 0) rfl (by decide) ?_
          refine k_iret rfl rfl (Nat.le_refl _) (Nat.le_refl _) ?_
          rw [if_neg (by omega), if_neg (by simp only [not_or]; exact ⟨hse, by omega⟩)] at hQ; exact hQ
        · refine k_iconst (v := nI 1) rfl (by decide) ?_
          refine k_goto rfl ?_
          refine k_iret rfl rfl (Nat.le_refl _) (Nat.le_refl _) ?_
          rw [if_neg (by omega), if_pos (Or.inr (by omega))] at hQ; exact hQ
      · have hse : s_seen s ≠ none := fun z => c31 (by rw [z]; rfl)
        refine k_iconst (v := nI 1) rfl (by decide) ?_
        refine k_iret rfl rfl (Nat.le_refl _) (Nat.le_refl _) ?_
        rw [if_neg (by omega), if_pos (Or.inl hse)] at hQ; exact hQ
    · refine k_iconst (v := -1) rfl (by decide) ?_
      refine k_iret rfl rfl (Nat.le_refl _) (Nat.le_refl _) ?_
      rw [if_pos (Or.inr (by omega))] at hQ; exact hQ
theorem wi_isc {n : Nat} (hn : n < 2 ^ 30) (x : Int32) : (decide (lN 0 ≤ x.toInt64) && decide (x.toInt64 ≤ (nI n - nI 1).toInt64)) = isc (nI n) x := by
  have e1 : (lN 0 ≤ x.toInt64) ↔ (0 ≤ x) := by
    rw [Int64.le_iff_toInt_le, Int32.le_iff_toInt_le, Int32.toInt_toInt64, pk_lT (by decide)]
    have : (0 : Int32).toInt = 0 := by decide
    rw [this]; rfl
  have e2 : (x.toInt64 ≤ (nI n - nI 1).toInt64) ↔ (x < nI n) := by
    rw [Int64.le_iff_toInt_le, Int32.lt_iff_toInt_lt, Int32.toInt_toInt64, Int32.toInt_toInt64, pk_sub_toInt hn (by decide), nI_toInt (by omega)]
    omega
  unfold isc
  rw [decide_eq_decide.mpr e1, decide_eq_decide.mpr e2]
theorem c_S_line {g : Gx} {h : Hp} {o d : Nat} {p : Nat → Nat} {s : St} {Q : Option Value → Hp → Prop} (P : PC g h o p s) (I : Inv s) (c k ax : Int32) (hQ : Q (some (.int (lnS s c k ax))) h) : Ct g M_S_line (d + 2) 0 0 [.ref o, .int c, .int k, .int ax] h Q := by
  have S := pc_S P
  have bT := v_told I
  have bL := v_lkr I
  refine ct_of ok_S_line (by decide) (Nat.le_of_ble_eq_true rfl) [some (.ref o), some (.int c), some (.int k), some (.int ax), none, none] rfl rfl ?_
  unfold lnS at hQ
  cases hp : plS s c with
  | none =>
    rw [hp] at hQ
    refine k_aload_n rfl rfl ?_
    refine k_iload_n rfl rfl ?_
    refine k_cV1 rfl cw_S_placeOf wd_173 (sc_o S) rfl (by decide) (Nat.le_of_ble_eq_true rfl) ?_
    refine c_S_placeOf P I c ?_
    rw [hp]
    refine k_ist4 rfl rfl ?_
    refine k_iload rfl rfl ?_
    refine k_iconst (v := -1) rfl (by decide) ?_
    refine k_icmp_eq rfl (fun c10 => ?_) (fun c10 => ?_)
    · refine k_iconst (v := -1) rfl (by decide) ?_
      refine k_iret rfl rfl (Nat.le_refl _) (Nat.le_refl _) ?_
      exact hQ
    · exact absurd rfl c10
  | some i =>
    have hk := plS_lt hp
    have hpi := (pc_m P).1 i (by omega)
    have ha := v_ar I i hk
    have hal := ar_le I hk
    rw [hp] at hQ
    simp only at hQ
    refine k_aload_n rfl rfl ?_
    refine k_iload_n rfl rfl ?_
    refine k_cV1 rfl cw_S_placeOf wd_173 (sc_o S) rfl (by decide) (Nat.le_of_ble_eq_true rfl) ?_
    refine c_S_placeOf P I c ?_
    rw [hp]
    refine k_ist4 rfl rfl ?_
    refine k_iload rfl rfl ?_
    refine k_iconst (v := -1) rfl (by decide) ?_
    refine k_icmp_eq rfl (fun c10 => ?_) (fun c10 => ?_)
    · exact absurd c10 (nI_m1 (by omega))
    · refine k_iload_n rfl rfl ?_
      refine k_i2l rfl ?_
      refine k_lconst (v := lN 0) rfl (by decide) ?_
      refine k_aload_n rfl rfl ?_
      refine k_getR rfl rfl (sc_o S) (sc_told S) ?_
      refine k_iload rfl rfl ?_
      refine k_aald (q := ca o (p i)) rfl (sc_a2 S) rfl (by decide) rfl (by omega) (by decide) (pc_r P i (by omega)) ?_
      refine k_gI rfl rfl (sc_c S (p i) hpi).1 (pc_t P i hk).2.1 ?_
      refine k_iconst (v := nI 1) rfl (by decide) ?_
      refine k_isub rfl ?_
      refine k_i2l rfl ?_
      refine k_cS3 rfl cw_S_isWithin wd_161 (by decide) (Nat.le_of_ble_eq_true rfl) ?_
      refine c_S_isWithin _ _ _ ?_
      rw [wi_isc (by omega)]
      refine kb_eq rfl (fun c32 => ?_) (fun c32 => ?_)
      · refine k_iconst (v := -1) rfl (by decide) ?_
        refine k_iret rfl rfl (Nat.le_refl _) (Nat.le_refl _) ?_
        rw [if_pos (by
          refine Decidable.byContradiction (fun z => ?_)
          simp only [not_or] at z
          rw [isc_t z.2.2.1 (Int32.not_le.mp z.2.2.2)] at c32; cases c32)] at hQ
        exact hQ
      · obtain ⟨j, hj, ej, ecl⟩ := isc_of (by omega) c32
        refine k_iload_n rfl rfl ?_
        refine k_cS1 rfl cw_S_isZeroOrOne wd_185 (by decide) (Nat.le_of_ble_eq_true rfl) ?_
        refine c_S_isZeroOrOne ax ?_
        refine kb_ne rfl (fun c39 => ?_) (fun c39 => ?_)
        · have hw1 := rwN_pos (s_ar s i)
          have hw2 := rwN_le (s_ar s i)
          have hax := z01 c39
          have hnr : ¬ (ax < 0 ∨ 1 < ax ∨ k < 0 ∨ nI (s_ar s i) ≤ k) := by
            intro z
            rcases z with z | z | z | z
            · rcases hax with e | e <;> subst e <;> exact absurd z (by decide)
            · rcases hax with e | e <;> subst e <;> exact absurd z (by decide)
            · rw [ej] at z; exact nI_pos (by omega) z
            · rw [ej] at z; exact nI_ge hj (by omega) z
          rw [if_neg hnr, ecl] at hQ
          clear ecl
          subst ej
          unfold lnN at hQ
          refine k_aload_n rfl rfl ?_
          refine k_getR rfl rfl (sc_o S) (sc_told S) ?_
          refine k_iload rfl rfl ?_
          refine k_aald (q := ca o (p i)) rfl (sc_a2 S) rfl (by decide) rfl (by omega) (by decide) (pc_r P i (by omega)) ?_
          refine k_gI rfl rfl (sc_c S (p i) hpi).1 (pc_t P i hk).2.1 ?_
          refine k_cS1 rfl cw_S_rowWidth wd_313 (by decide) (Nat.le_of_ble_eq_true rfl) ?_
          refine c_S_rowWidth ha.1 hal ?_
          refine k_ist5 rfl rfl ?_
          refine k_iload_n rfl rfl ?_
          refine k_if_ne rfl (fun c60 => ?_) (fun c60 => ?_)
          · refine k_iload_n rfl rfl ?_
            refine k_iload rfl rfl ?_
            refine k_cS2 rfl cw_S_rowOf wd_319 (by decide) (Nat.le_of_ble_eq_true rfl) ?_
            refine c_S_rowOf (by omega) hw1 (by omega) ?_
            refine k_iret rfl rfl (Nat.le_refl _) (Nat.le_refl _) ?_
            rw [if_pos (hax.resolve_left c60)] at hQ; exact hQ
          · refine k_iload_n rfl rfl ?_
            refine k_iload rfl rfl ?_
            refine k_cS2 rfl cw_S_placeInRow wd_316 (by decide) (Nat.le_of_ble_eq_true rfl) ?_
            refine c_S_placeInRow (by omega) hw1 (by omega) ?_
            refine k_goto rfl ?_
            refine k_iret rfl rfl (Nat.le_refl _) (Nat.le_refl _) ?_
            rw [if_neg (by rw [c60]; decide)] at hQ; exact hQ
        · refine k_iconst (v := -1) rfl (by decide) ?_
          refine k_iret rfl rfl (Nat.le_refl _) (Nat.le_refl _) ?_
          rw [if_pos (by
            refine Decidable.byContradiction (fun z => ?_)
            simp only [not_or] at z
            rcases i01 (fun y => y.elim z.1 z.2.1) with e | e <;> subst e <;> simp at c39)] at hQ
          exact hQ
