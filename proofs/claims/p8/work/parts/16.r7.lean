theorem nI_0lt {x : Nat} (h : x < 2 ^ 31) : 0 < nI x ↔ 0 < x := nI_ltI (a := 0) (by decide) h
theorem nI_is0 {x : Nat} (h : x < 2 ^ 31) : nI x = 0 ↔ x = 0 := nI_eq (b := 0) h (by decide)
theorem plS_c {s : St} {c : Int32} {k : Nat} (h : plS s c = some k) : c = nI (s_num s k) := ((plc_some _ _ _ h).2.2).symm
theorem c_R_seen {g : Gx} {h : Hp} {m d : Nat} {s : St} {Q : Option Value → Hp → Prop} (P : PR g h m s) (I : Inv s) (c b : Int32) (hQ : ∀ h1, hp_fr (inR m) h h1 → PR g h1 m (seS s c b).2 → Q (some (.int (bI (seS s c b).1))) h1) : Ct g M_R_seen (d + 1) 0 0 [.ref m, .int c, .int b] h Q := by
  have S := pr_S P
  have bT := v_told I
  have bL := v_lkr I
  refine ct_of ok_R_seen (by decide) (Nat.le_of_ble_eq_true rfl) [some (.ref m), some (.int c), some (.int b)] rfl rfl ?_
  have bK := v_lks I
  have hcb := v_cells I
  unfold seS at hQ
  cases hp : plS s c with
  | none =>
    rw [hp] at hQ
    refine k_aload_n rfl rfl ?_
    refine k_iload_n rfl rfl ?_
    refine k_cV1 rfl cw_R_isCell wd_450 (sr_o S) rfl (by decide) (Nat.le_of_ble_eq_true rfl) ?_
    refine c_R_isCell P I c ?_
    refine kb_eq rfl (fun c5 => ?_) (fun c5 => ?_)
    · refine k_iconst (v := nI 0) rfl (by decide) ?_
      refine k_zret rfl rfl (by decide) (Nat.le_refl _) (Nat.le_refl _) ?_
      exact hQ h fr_rf P
    · refine k_aload_n rfl rfl ?_
      refine k_iload_n rfl rfl ?_
      refine k_cV1 rfl cw_R_isLooker wd_484 (sr_o S) rfl (by decide) (Nat.le_of_ble_eq_true rfl) ?_
      refine c_R_isLooker P I b ?_
      refine kb_eq rfl (fun c13 => ?_) (fun c13 => ?_)
      · refine k_iconst (v := nI 0) rfl (by decide) ?_
        refine k_zret rfl rfl (by decide) (Nat.le_refl _) (Nat.le_refl _) ?_
        exact hQ h fr_rf P
      · refine k_aload_n rfl rfl ?_
        refine k_iload_n rfl rfl ?_
        refine k_cV1 rfl cw_R_place wd_455 (sr_o S) rfl (by decide) (Nat.le_of_ble_eq_true rfl) ?_
        refine c_R_place P I c ?_
        rw [hp]
        refine k_iconst (v := -1) rfl (by decide) ?_
        refine k_icmp_eq rfl (fun c22 => ?_) (fun c22 => ?_)
        · refine k_iconst (v := nI 0) rfl (by decide) ?_
          refine k_zret rfl rfl (by decide) (Nat.le_refl _) (Nat.le_refl _) ?_
          exact hQ h fr_rf P
        · exact absurd rfl c22
  | some k =>
    have hk := plS_lt hp
    have hnb := v_num I k hk
    have hc := v_cn I 0 k (by decide) hk
    rw [hp] at hQ
    simp only at hQ
    refine k_aload_n rfl rfl ?_
    refine k_iload_n rfl rfl ?_
    refine k_cV1 rfl cw_R_isCell wd_450 (sr_o S) rfl (by decide) (Nat.le_of_ble_eq_true rfl) ?_
    refine c_R_isCell P I c ?_
    refine kb_eq rfl (fun c5 => ?_) (fun c5 => ?_)
    · exact absurd (pl_isc I hp) (by rw [c5]; decide)
    · refine k_aload_n rfl rfl ?_
      refine k_iload_n rfl rfl ?_
      refine k_cV1 rfl cw_R_isLooker wd_484 (sr_o S) rfl (by decide) (Nat.le_of_ble_eq_true rfl) ?_
      refine c_R_isLooker P I b ?_
      refine kb_eq rfl (fun c13 => ?_) (fun c13 => ?_)
      · rw [c13] at hQ
        refine k_iconst (v := nI 0) rfl (by decide) ?_
        refine k_zret rfl rfl (by decide) (Nat.le_refl _) (Nat.le_refl _) ?_
        exact hQ h fr_rf P
      · obtain ⟨b0, hb0, eb, ebl⟩ := isc_of (by omega) c13
        have hlb := v_ld I b0 k (by omega) hk
        rw [c13, ebl] at hQ
        refine k_aload_n rfl rfl ?_
        refine k_iload_n rfl rfl ?_
        refine k_cV1 rfl cw_R_place wd_455 (sr_o S) rfl (by decide) (Nat.le_of_ble_eq_true rfl) ?_
        refine c_R_place P I c ?_
        rw [hp]
        refine k_iconst (v := -1) rfl (by decide) ?_
        refine k_icmp_eq rfl (fun c22 => ?_) (fun c22 => ?_)
        · exact absurd c22 (nI_m1 (by omega))
        · refine k_aload_n rfl rfl ?_
          refine k_gI rfl rfl (sr_o S) (pr_seen P) ?_
          refine k_iconst (v := -1) rfl (by decide) ?_
          refine k_icmp_ne rfl (fun c30 => ?_) (fun c30 => ?_)
          · have hse : (s_seen s).isNone = false := by
              cases hs : s_seen s with
              | none => rw [hs] at c30; exact absurd rfl c30
              | some q => rfl
            rw [hse] at hQ
            refine k_iconst (v := nI 0) rfl (by decide) ?_
            refine k_zret rfl rfl (by decide) (Nat.le_refl _) (Nat.le_refl _) ?_
            exact hQ h fr_rf P
          · have hse : (s_seen s).isNone = true := by
              cases hs : s_seen s with
              | none => rfl
              | some q => rw [hs] at c30; exact absurd c30 (nI_m1 (by have := v_seen I q hs; omega))
            rw [hse] at hQ
            refine k_aload_n rfl rfl ?_
            refine k_getR rfl rfl (sr_o S) (sr_looked S) ?_
            refine k_bipush (v := nI 40) rfl (by decide) ?_
            refine k_iload_n rfl rfl ?_
            refine k_imul rfl ?_
            refine k_aload_n rfl rfl ?_
            refine k_iload_n rfl rfl ?_
            refine k_cV1 rfl cw_R_place wd_455 (sr_o S) rfl (by decide) (Nat.le_of_ble_eq_true rfl) ?_
            refine c_R_place P I c ?_
            rw [hp]
            refine k_iadd rfl ?_
            refine k_iA rfl (sr_a9 S) (j := 40 * b0 + k) (by rw [eb]; exact ix40 b0 k) (by omega) (by decide) (pr_ld P b0 k (by omega) hk) ?_
            refine k_if_eq rfl (fun c48 => ?_) (fun c48 => ?_)
            · have e48 := (nI_is0 (by omega)).mp c48
              rw [decide_eq_true e48] at hQ
              refine k_iconst (v := nI 0) rfl (by decide) ?_
              refine k_zret rfl rfl (by decide) (Nat.le_refl _) (Nat.le_refl _) ?_
              exact hQ h fr_rf P
            · have e48 : ¬ s_ld s b0 k = 0 := fun z => c48 ((nI_is0 (by omega)).mpr z)
              rw [decide_eq_false e48] at hQ
              refine k_aload_n rfl rfl ?_
              refine k_getR rfl rfl (sr_o S) (sr_count S) ?_
              refine k_aload_n rfl rfl ?_
              refine k_iload_n rfl rfl ?_
              refine k_cV1 rfl cw_R_place wd_455 (sr_o S) rfl (by decide) (Nat.le_of_ble_eq_true rfl) ?_
              refine c_R_place P I c ?_
              rw [hp]
              refine k_iA rfl (sr_a3 S) (c0_ix k) (by omega) (by decide) (pr_cn P 0 k (by decide) hk) ?_
              refine k_if_ne rfl (fun c61 => ?_) (fun c61 => ?_)
              · have e61 : ¬ s_cn s 0 k = 0 := fun z => c61 ((nI_is0 (by omega)).mpr z)
                rw [decide_eq_false e61] at hQ
                refine k_aload_n rfl rfl ?_
                refine k_iload_n rfl rfl ?_
                refine k_putI rfl rfl rfl (sr_o S) ?_
                have P1 : PR g (hp_ui h m 18 c) m (w_seen s (some (s_num s k))) := ⟨S, ((by simp only [i_ui, j_ui, i_uj, j_uj]; (repeat rw [if_neg (by omega)]); exact pr_cells (s := s) P)), ((by simp only [i_ui, j_ui, i_uj, j_uj]; (repeat rw [if_neg (by omega)]); exact pr_told (s := s) P)), (fun k z => (by simp only [i_ui, j_ui, i_uj, j_uj]; (repeat rw [if_neg (by omega)]); exact pr_num (s := s) P k z)), (fun k z => (by simp only [i_ui, j_ui, i_uj, j_uj]; (repeat rw [if_neg (by omega)]); exact pr_ar (s := s) P k z)), (fun t k z y => (by simp only [i_ui, j_ui, i_uj, j_uj]; (repeat rw [if_neg (by omega)]); exact pr_cn (s := s) P t k z y)), ((by simp only [i_ui, j_ui, i_uj, j_uj]; (repeat rw [if_neg (by omega)]); exact pr_things (s := s) P)), ((by simp only [i_ui, j_ui, i_uj, j_uj]; (repeat rw [if_neg (by omega)]); exact pr_lkr (s := s) P)), (fun k z => (by simp only [i_ui, j_ui, i_uj, j_uj]; (repeat rw [if_neg (by omega)]); exact pr_rt (s := s) P k z)), (fun k z => (by simp only [i_ui, j_ui, i_uj, j_uj]; (repeat rw [if_neg (by omega)]); exact pr_hr (s := s) P k z)), (fun t k z y => (by simp only [i_ui, j_ui, i_uj, j_uj]; (repeat rw [if_neg (by omega)]); exact pr_bd (s := s) P t k z y)), (fun t k z y => (by simp only [i_ui, j_ui, i_uj, j_uj]; (repeat rw [if_neg (by omega)]); exact pr_pl (s := s) P t k z y)), (fun t k z y => (by simp only [i_ui, j_ui, i_uj, j_uj]; (repeat rw [if_neg (by omega)]); exact pr_ld (s := s) P t k z y)), ((by simp only [i_ui, j_ui, i_uj, j_uj]; (repeat rw [if_neg (by omega)]); exact pr_lks (s := s) P)), (fun k z => (by simp only [i_ui, j_ui, i_uj, j_uj]; (repeat rw [if_neg (by omega)]); exact pr_gl (s := s) P k z)), (fun k z => (by simp only [i_ui, j_ui, i_uj, j_uj]; (repeat rw [if_neg (by omega)]); exact pr_gc (s := s) P k z)), (fun k z => (by simp only [i_ui, j_ui, i_uj, j_uj]; (repeat rw [if_neg (by omega)]); exact pr_gh (s := s) P k z)), (fun k z => (by simp only [i_ui, j_ui, i_uj, j_uj]; (repeat rw [if_neg (by omega)]); exact pr_gt (s := s) P k z)), (by rw [i_ui, if_pos ⟨rfl, rfl⟩]; exact plS_c hp), ((by simp only [i_ui, j_ui, i_uj, j_uj]; (repeat rw [if_neg (by omega)]); exact pr_ab (s := s) P)), ((by simp only [i_ui, j_ui, i_uj, j_uj]; (repeat rw [if_neg (by omega)]); exact pr_bl (s := s) P))⟩
                have x1 : hp_fr (inR m) h (hp_ui h m 18 c) := fr_ui ⟨by omega, by omega⟩
                refine k_aload_n rfl rfl ?_
                refine k_cV0 rfl cw_R_changed wd_467 (sr_o S) rfl (by decide) (Nat.le_of_ble_eq_true rfl) ?_
                refine c_R_changed P1 (fun h2 x2 P2 => ?_)
                refine k_iconst (v := nI 1) rfl (by decide) ?_
                refine k_zret rfl rfl (by decide) (Nat.le_refl _) (Nat.le_refl _) ?_
                exact hQ h2 (fr_tr x1 x2) P2
              · have e61 := (nI_is0 (by omega)).mp c61
                rw [decide_eq_true e61] at hQ
                refine k_iconst (v := nI 0) rfl (by decide) ?_
                refine k_zret rfl rfl (by decide) (Nat.le_refl _) (Nat.le_refl _) ?_
                exact hQ h fr_rf P
theorem c_R_looker {g : Gx} {h : Hp} {m d : Nat} {s : St} {Q : Option Value → Hp → Prop} (P : PR g h m s) (I : Inv s) (a b : Int64) (q : Int32) (hQ : ∀ h1, hp_fr (inR m) h h1 → PR g h1 m (lrS s a b q).2 → Q (some (.int ((lrS s a b q).1))) h1) : Ct g M_R_looker (d + 1) 0 0 [.ref m, .long a, .long b, .int q] h Q := by
  have S := pr_S P
  have bT := v_told I
  have bL := v_lkr I
  refine ct_of ok_R_looker (by decide) (Nat.le_of_ble_eq_true rfl) [some (.ref m), some (.long a), none, some (.long b), none, some (.int q)] rfl rfl ?_
  have bK := v_lks I
  unfold lrS at hQ
  refine k_aload_n rfl rfl ?_
  refine k_gI rfl rfl (sr_o S) (pr_lkr P) ?_
  refine k_iconst (v := nI 4) rfl (by decide) ?_
  refine kn_eq rfl (by omega) (by omega) (fun c5 => ?_) (fun c5 => ?_)
  · refine k_iconst (v := -1) rfl (by decide) ?_
    refine k_iret rfl rfl (Nat.le_refl _) (Nat.le_refl _) ?_
    rw [if_pos (Or.inl (c5))] at hQ; exact hQ h fr_rf P
  · refine k_aload_n rfl rfl ?_
    refine k_gI rfl rfl (sr_o S) (pr_lks P) ?_
    refine k_if_gt rfl (fun c12 => ?_) (fun c12 => ?_)
    · refine k_iconst (v := -1) rfl (by decide) ?_
      refine k_iret rfl rfl (Nat.le_refl _) (Nat.le_refl _) ?_
      rw [if_pos (Or.inr (Or.inl ((nI_0lt (by omega)).mp c12)))] at hQ; exact hQ h fr_rf P
    · refine k_lload_n rfl rfl ?_
      refine k_lconst (v := 1) rfl (by decide) ?_
      refine kl_lt rfl rfl (fun c17 => ?_) (fun c17 => ?_)
      · refine k_iconst (v := -1) rfl (by decide) ?_
        refine k_iret rfl rfl (Nat.le_refl _) (Nat.le_refl _) ?_
        rw [if_pos (Or.inr (Or.inr (Or.inl (c17))))] at hQ; exact hQ h fr_rf P
      · refine k_lload_n rfl rfl ?_
        refine k_ldc2 rfl wd_454 ?_
        refine kl_gt rfl rfl (fun c25 => ?_) (fun c25 => ?_)
        · refine k_iconst (v := -1) rfl (by decide) ?_
          refine k_iret rfl rfl (Nat.le_refl _) (Nat.le_refl _) ?_
          rw [if_pos (Or.inr (Or.inr (Or.inr (Or.inl (c25)))))] at hQ; exact hQ h fr_rf P
        · refine k_lload_n rfl rfl ?_
          refine k_lconst (v := 1) rfl (by decide) ?_
          refine kl_lt rfl rfl (fun c31 => ?_) (fun c31 => ?_)
          · refine k_iconst (v := -1) rfl (by decide) ?_
            refine k_iret rfl rfl (Nat.le_refl _) (Nat.le_refl _) ?_
            rw [if_pos (Or.inr (Or.inr (Or.inr (Or.inr (Or.inl (c31))))))] at hQ; exact hQ h fr_rf P
          · refine k_lload_n rfl rfl ?_
            refine k_ldc2 rfl wd_454 ?_
            refine kl_gt rfl rfl (fun c39 => ?_) (fun c39 => ?_)
            · refine k_iconst (v := -1) rfl (by decide) ?_
              refine k_iret rfl rfl (Nat.le_refl _) (Nat.le_refl _) ?_
              rw [if_pos (Or.inr (Or.inr (Or.inr (Or.inr (Or.inr (Or.inl (c39)))))))] at hQ; exact hQ h fr_rf P
            · refine k_lload_n rfl rfl ?_
              refine k_lload_n rfl rfl ?_
              refine k_lmul rfl ?_
              refine k_ldc2 rfl wd_454 ?_
              refine kl_gt rfl rfl (fun c49 => ?_) (fun c49 => ?_)
              · refine k_iconst (v := -1) rfl (by decide) ?_
                refine k_iret rfl rfl (Nat.le_refl _) (Nat.le_refl _) ?_
                rw [if_pos (Or.inr (Or.inr (Or.inr (Or.inr (Or.inr (Or.inr (Or.inl (c49))))))))] at hQ; exact hQ h fr_rf P
              · refine k_iload rfl rfl ?_
                refine k_iconst (v := 1) rfl (by decide) ?_
                refine k_icmp_lt rfl (fun c56 => ?_) (fun c56 => ?_)
                · refine k_iconst (v := -1) rfl (by decide) ?_
                  refine k_iret rfl rfl (Nat.le_refl _) (Nat.le_refl _) ?_
                  rw [if_pos (Or.inr (Or.inr (Or.inr (Or.inr (Or.inr (Or.inr (Or.inr (Or.inl (c56)))))))))] at hQ; exact hQ h fr_rf P
                · refine k_iload rfl rfl ?_
                  refine k_bipush (v := 24) rfl (by decide) ?_
                  refine k_icmp_le rfl (fun c63 => ?_) (fun c63 => ?_)
                  · have na : ¬ a < 0 := fun z => c17 (Int64.lt_trans z (by decide))
                    have nb : ¬ b < 0 := fun z => c31 (Int64.lt_trans z (by decide))
                    obtain ⟨ea, ba⟩ := LN_of na
                    obtain ⟨eb, bb⟩ := LN_of nb
                    have la : LN a ≤ 1000 := LN_le na (by decide) c25
                    have lb : LN b ≤ 1000 := LN_le nb (by decide) c39
                    have nq : ¬ q < 0 := fun z => c56 (Int32.lt_trans z (by decide))
                    obtain ⟨q0, hq0, eq1⟩ := nI_of nq
                    have eq0 : q = nI q.toNatClampNeg := by rw [eq1, nI_clamp hq0]
                    have eab : lN (LN a) * lN (LN b) = lN (LN a * LN b) := lN_mul _ _
                    rw [if_neg (by
                      intro z
                      rcases z with z | z | z | z | z | z | z | z | z
                      · exact c5 z
                      · exact c12 ((nI_0lt (by omega)).mpr z)
                      · exact c17 z
                      · exact c25 z
                      · exact c31 z
                      · exact c39 z
                      · exact c49 z
                      · exact c56 z
                      · exact absurd c63 (Int32.not_le.mpr z))] at hQ
                    refine k_aload_n rfl rfl ?_
                    refine k_getR rfl rfl (sr_o S) (sr_rate S) ?_
                    refine k_aload_n rfl rfl ?_
                    refine k_gI rfl rfl (sr_o S) (pr_lkr P) ?_
                    refine k_lload_n rfl rfl ?_
                    refine k_lload_n rfl rfl ?_
                    refine k_lmul rfl ?_
                    rw [show a * b = lN (LN a * LN b) from by rw [← eab, ← ea, ← eb]]
                    refine k_l2iN rfl ?_
                    refine k_iS rfl (sr_a4 S) rfl (by omega) (by decide) ?_
                    refine k_aload_n rfl rfl ?_
                    refine k_getR rfl rfl (sr_o S) (sr_hours S) ?_
                    refine k_aload_n rfl rfl ?_
                    refine k_gI (x := nI (s_lkr s)) rfl rfl (sr_o S) (by rw [i_ui, if_neg (by omega)]; exact pr_lkr P) ?_
                    refine k_iload rfl rfl ?_
                    refine k_iS rfl (sr_a5 S) rfl (by omega) (by decide) ?_
                    refine k_aload_n rfl rfl ?_
                    refine k_dup rfl rfl ?_
                    refine k_gI (x := nI (s_lkr s)) rfl rfl (sr_o S) (by rw [i_ui, if_neg (by omega), i_ui, if_neg (by omega)]; exact pr_lkr P) ?_
                    refine k_iconst (v := nI 1) rfl (by decide) ?_
                    refine k_iaddN rfl ?_
                    refine k_putI rfl rfl rfl (sr_o S) ?_
                    refine k_aload_n rfl rfl ?_
                    have P1 : PR g (hp_ui (hp_ui (hp_ui h (m + 4) (s_lkr s) (nI (LN a * LN b))) (m + 5) (s_lkr s) q) m 6 (nI (s_lkr s + 1))) m (w_lkr (w_hr (w_rt s (va_up (s_rt s) (s_lkr s) (LN a * LN b))) (va_up (s_hr s) (s_lkr s) q.toNatClampNeg)) (s_lkr s + 1)) := ⟨S, ((by simp only [i_ui, j_ui, i_uj, j_uj]; (repeat rw [if_neg (by omega)]); exact pr_cells (s := s) P)), ((by simp only [i_ui, j_ui, i_uj, j_uj]; (repeat rw [if_neg (by omega)]); exact pr_told (s := s) P)), (fun k z => (by simp only [i_ui, j_ui, i_uj, j_uj]; (repeat rw [if_neg (by omega)]); exact pr_num (s := s) P k z)), (fun k z => (by simp only [i_ui, j_ui, i_uj, j_uj]; (repeat rw [if_neg (by omega)]); exact pr_ar (s := s) P k z)), (fun t k z y => (by simp only [i_ui, j_ui, i_uj, j_uj]; (repeat rw [if_neg (by omega)]); exact pr_cn (s := s) P t k z y)), ((by simp only [i_ui, j_ui, i_uj, j_uj]; (repeat rw [if_neg (by omega)]); exact pr_things (s := s) P)), (by rw [i_ui, if_pos ⟨rfl, rfl⟩]; rfl), (fun l z => by
                        show _ = nI (va_up (s_rt s) (s_lkr s) (LN a * LN b) l)
                        have z : l < s_lkr s + 1 := z
                        rw [i_ui, if_neg (by omega), i_ui, if_neg (by omega), i_ui]
                        by_cases e : l = s_lkr s
                        · rw [if_pos ⟨rfl, e⟩, e, va_up_self]
                        · rw [if_neg (fun y => e y.2), va_up_ne _ _ e]; exact pr_rt P l (by omega)), (fun l z => by
                        show _ = nI (va_up (s_hr s) (s_lkr s) q.toNatClampNeg l)
                        have z : l < s_lkr s + 1 := z
                        rw [i_ui, if_neg (by omega), i_ui]
                        by_cases e : l = s_lkr s
                        · rw [if_pos ⟨rfl, e⟩, e, va_up_self]; exact eq0
                        · rw [if_neg (fun y => e y.2), i_ui, if_neg (by omega), va_up_ne _ _ e]; exact pr_hr P l (by omega)), (fun t k z y => (by simp only [i_ui, j_ui, i_uj, j_uj]; (repeat rw [if_neg (by omega)]); exact pr_bd (s := s) P t k z y)), (fun t k z y => (by simp only [i_ui, j_ui, i_uj, j_uj]; (repeat rw [if_neg (by omega)]); exact pr_pl (s := s) P t k z y)), (fun t k z y => (by simp only [i_ui, j_ui, i_uj, j_uj]; (repeat rw [if_neg (by omega)]); exact pr_ld (s := s) P t k z y)), ((by simp only [i_ui, j_ui, i_uj, j_uj]; (repeat rw [if_neg (by omega)]); exact pr_lks (s := s) P)), (fun k z => (by simp only [i_ui, j_ui, i_uj, j_uj]; (repeat rw [if_neg (by omega)]); exact pr_gl (s := s) P k z)), (fun k z => (by simp only [i_ui, j_ui, i_uj, j_uj]; (repeat rw [if_neg (by omega)]); exact pr_gc (s := s) P k z)), (fun k z => (by simp only [i_ui, j_ui, i_uj, j_uj]; (repeat rw [if_neg (by omega)]); exact pr_gh (s := s) P k z)), (fun k z => (by simp only [i_ui, j_ui, i_uj, j_uj]; (repeat rw [if_neg (by omega)]); exact pr_gt (s := s) P k z)), ((by simp only [i_ui, j_ui, i_uj, j_uj]; (repeat rw [if_neg (by omega)]); exact pr_seen (s := s) P)), ((by simp only [i_ui, j_ui, i_uj, j_uj]; (repeat rw [if_neg (by omega)]); exact pr_ab (s := s) P)), ((by simp only [i_ui, j_ui, i_uj, j_uj]; (repeat rw [if_neg (by omega)]); exact pr_bl (s := s) P))⟩
                    have x1 : hp_fr (inR m) h (hp_ui (hp_ui (hp_ui h (m + 4) (s_lkr s) (nI (LN a * LN b))) (m + 5) (s_lkr s) q) m 6 (nI (s_lkr s + 1))) := fr_tr (fr_tr (fr_ui ⟨by omega, by omega⟩) (fr_ui ⟨by omega, by omega⟩)) (fr_ui ⟨by omega, by omega⟩)
                    refine k_cV0 rfl cw_R_changed wd_467 (sr_o S) rfl (by decide) (Nat.le_of_ble_eq_true rfl) ?_
                    refine c_R_changed P1 (fun h2 x2 P2 => ?_)
                    refine k_aload_n rfl rfl ?_
                    refine k_gI (x := nI (s_lkr s + 1)) rfl rfl (sr_o (pr_S P2)) (pr_lkr P2) ?_
                    refine k_iconst (v := nI 1) rfl (by decide) ?_
                    refine k_isubN rfl (by omega) ?_
                    refine k_iret rfl rfl (Nat.le_refl _) (Nat.le_refl _) ?_
                    exact hQ h2 (fr_tr x1 x2) P2
                  · refine k_iconst (v := -1) rfl (by decide) ?_
                    refine k_iret rfl rfl (Nat.le_refl _) (Nat.le_refl _) ?_
                    rw [if_pos (Or.inr (Or.inr (Or.inr (Or.inr (Or.inr (Or.inr (Or.inr (Or.inr ((Int32.not_le.mp c63))))))))))] at hQ; exact hQ h fr_rf P
theorem c_R_look {g : Gx} {h : Hp} {m d : Nat} {s : St} {Q : Option Value → Hp → Prop} (P : PR g h m s) (I : Inv s) (l c : Int32) (q t : Int64) (hQ : ∀ h1, hp_fr (inR m) h h1 → PR g h1 m (lkS s l c q t).2 → Q (some (.int ((lkS s l c q t).1))) h1) : Ct g M_R_look (d + 1) 0 0 [.ref m, .int l, .int c, .long q, .long t] h Q := by
  have S := pr_S P
  have bT := v_told I
  have bL := v_lkr I
  refine ct_of ok_R_look (by decide) (Nat.le_of_ble_eq_true rfl) [some (.ref m), some (.int l), some (.int c), some (.long q), none, some (.long t), none] rfl rfl ?_
  have bK := v_lks I
  have hcb := v_cells I
  unfold lkS at hQ
  cases hp : plS s c with
  | none =>
    rw [hp] at hQ
    refine k_aload_n rfl rfl ?_
    refine k_iload_n rfl rfl ?_
    refine k_cV1 rfl cw_R_isLooker wd_484 (sr_o S) rfl (by decide) (Nat.le_of_ble_eq_true rfl) ?_
    refine c_R_isLooker P I l ?_
    refine kb_eq rfl (fun c5 => ?_) (fun c5 => ?_)
    · refine k_iconst (v := -1) rfl (by decide) ?_
      refine k_iret rfl rfl (Nat.le_refl _) (Nat.le_refl _) ?_
      exact hQ h fr_rf P
    · refine k_aload_n rfl rfl ?_
      refine k_iload_n rfl rfl ?_
      refine k_cV1 rfl cw_R_isCell wd_450 (sr_o S) rfl (by decide) (Nat.le_of_ble_eq_true rfl) ?_
      refine c_R_isCell P I c ?_
      refine kb_eq rfl (fun c13 => ?_) (fun c13 => ?_)
      · refine k_iconst (v := -1) rfl (by decide) ?_
        refine k_iret rfl rfl (Nat.le_refl _) (Nat.le_refl _) ?_
        exact hQ h fr_rf P
      · refine k_aload_n rfl rfl ?_
        refine k_iload_n rfl rfl ?_
        refine k_cV1 rfl cw_R_place wd_455 (sr_o S) rfl (by decide) (Nat.le_of_ble_eq_true rfl) ?_
        refine c_R_place P I c ?_
        rw [hp]
        refine k_iconst (v := -1) rfl (by decide) ?_
        refine k_icmp_eq rfl (fun c22 => ?_) (fun c22 => ?_)
        · refine k_iconst (v := -1) rfl (by decide) ?_
          refine k_iret rfl rfl (Nat.le_refl _) (Nat.le_refl _) ?_
          exact hQ h fr_rf P
        · exact absurd rfl c22
  | some k =>
    have hk := plS_lt hp
    have hnb := v_num I k hk
    rw [hp] at hQ
    simp only at hQ
    refine k_aload_n rfl rfl ?_
    refine k_iload_n rfl rfl ?_
    refine k_cV1 rfl cw_R_isLooker wd_484 (sr_o S) rfl (by decide) (Nat.le_of_ble_eq_true rfl) ?_
    refine c_R_isLooker P I l ?_
    refine kb_eq rfl (fun c5 => ?_) (fun c5 => ?_)
    · refine k_iconst (v := -1) rfl (by decide) ?_
      refine k_iret rfl rfl (Nat.le_refl _) (Nat.le_refl _) ?_
      rw [if_pos (Or.inl (c5))] at hQ; exact hQ h fr_rf P
    · refine k_aload_n rfl rfl ?_
      refine k_iload_n rfl rfl ?_
      refine k_cV1 rfl cw_R_isCell wd_450 (sr_o S) rfl (by decide) (Nat.le_of_ble_eq_true rfl) ?_
      refine c_R_isCell P I c ?_
      refine kb_eq rfl (fun c13 => ?_) (fun c13 => ?_)
      · exact absurd (pl_isc I hp) (by rw [c13]; decide)
      · refine k_aload_n rfl rfl ?_
        refine k_iload_n rfl rfl ?_
        refine k_cV1 rfl cw_R_place wd_455 (sr_o S) rfl (by decide) (Nat.le_of_ble_eq_true rfl) ?_
        refine c_R_place P I c ?_
        rw [hp]
        refine k_iconst (v := -1) rfl (by decide) ?_
        refine k_icmp_eq rfl (fun c22 => ?_) (fun c22 => ?_)
        · exact absurd c22 (nI_m1 (by omega))
        · refine k_aload_n rfl rfl ?_
          refine k_gI rfl rfl (sr_o S) (pr_seen P) ?_
          refine k_iconst (v := -1) rfl (by decide) ?_
          refine k_icmp_ne rfl (fun c30 => ?_) (fun c30 => ?_)
          · have hse : s_seen s ≠ none := fun z => c30 (by rw [z]; rfl)
            refine k_iconst (v := -1) rfl (by decide) ?_
            refine k_iret rfl rfl (Nat.le_refl _) (Nat.le_refl _) ?_
            rw [if_pos (Or.inr (Or.inl (hse)))] at hQ; exact hQ h fr_rf P
          · have hse : ¬ s_seen s ≠ none := by
              cases hs : s_seen s with
              | none => simp
              | some q => rw [hs] at c30; exact absurd c30 (nI_m1 (by have := v_seen I q hs; omega))
            refine k_aload_n rfl rfl ?_
            refine k_gI rfl rfl (sr_o S) (pr_lks P) ?_
            refine k_sipush (v := nI 200) rfl (by decide) ?_
            refine kn_eq rfl (by omega) (by omega) (fun c40 => ?_) (fun c40 => ?_)
            · refine k_iconst (v := -1) rfl (by decide) ?_
              refine k_iret rfl rfl (Nat.le_refl _) (Nat.le_refl _) ?_
              rw [if_pos (Or.inr (Or.inr (Or.inl (c40))))] at hQ; exact hQ h fr_rf P
            · refine k_lload_n rfl rfl ?_
              refine k_lconst (v := 1) rfl (by decide) ?_
              refine kl_lt rfl rfl (fun c45 => ?_) (fun c45 => ?_)
              · refine k_iconst (v := -1) rfl (by decide) ?_
                refine k_iret rfl rfl (Nat.le_refl _) (Nat.le_refl _) ?_
                rw [if_pos (Or.inr (Or.inr (Or.inr (Or.inl (c45)))))] at hQ; exact hQ h fr_rf P
              · refine k_lload_n rfl rfl ?_
                refine k_ldc2 rfl wd_502 ?_
                refine kl_gt rfl rfl (fun c53 => ?_) (fun c53 => ?_)
                · refine k_iconst (v := -1) rfl (by decide) ?_
                  refine k_iret rfl rfl (Nat.le_refl _) (Nat.le_refl _) ?_
                  rw [if_pos (Or.inr (Or.inr (Or.inr (Or.inr (Or.inl (c53))))))] at hQ; exact hQ h fr_rf P
                · refine k_lload rfl rfl ?_
                  refine k_lconst (v := 0) rfl (by decide) ?_
                  refine kl_ge rfl rfl (fun c60 => ?_) (fun c60 => ?_)
                  · obtain ⟨l0, hl0, el, ecl⟩ := isc_of (by omega) c5
                    have nq : ¬ q < 0 := fun z => c45 (Int64.lt_trans z (by decide))
                    obtain ⟨eq, bq⟩ := LN_of nq
                    have lq : LN q ≤ 100 := LN_le nq (by decide) c53
                    obtain ⟨et, bt9⟩ := LN_of (x := t) (fun z => absurd c60 (Int64.not_le.mpr z))
                    have hld0 := v_ld I l0 k (by omega) hk
                    rw [if_neg (by
                      intro z
                      rcases z with z | z | z | z | z | z
                      · rw [c5] at z; cases z
                      · exact hse z
                      · exact c40 z
                      · exact c45 z
                      · exact c53 z
                      · exact absurd c60 (Int64.not_le.mpr z))] at hQ
                    refine k_aload_n rfl rfl ?_
                    refine k_getR rfl rfl (sr_o S) (sr_lookLooker S) ?_
                    refine k_aload_n rfl rfl ?_
                    refine k_gI rfl rfl (sr_o S) (pr_lks P) ?_
                    refine k_iload_n rfl rfl ?_
                    refine k_iS rfl (sr_a10 S) rfl (by omega) (by decide) ?_
                    refine k_aload_n rfl rfl ?_
                    refine k_getR rfl rfl (sr_o S) (sr_lookCell S) ?_
                    refine k_aload_n rfl rfl ?_
                    refine k_gI (x := nI (s_lks s)) rfl rfl (sr_o S) (by simp only [i_ui, i_uj]; (repeat rw [if_neg (by omega)]); exact pr_lks P) ?_
                    refine k_iload_n rfl rfl ?_
                    refine k_iS rfl (sr_a11 S) rfl (by omega) (by decide) ?_
                    refine k_aload_n rfl rfl ?_
                    refine k_getR rfl rfl (sr_o S) (sr_lookHours S) ?_
                    refine k_aload_n rfl rfl ?_
                    refine k_gI (x := nI (s_lks s)) rfl rfl (sr_o S) (by simp only [i_ui, i_uj]; (repeat rw [if_neg (by omega)]); exact pr_lks P) ?_
                    refine k_lload_n rfl rfl ?_
                    refine k_l2i rfl ?_
                    rw [show q.toInt32 = nI (LN q) from by rw [eq, lN_i, ← eq]]
                    refine k_iS rfl (sr_a12 S) rfl (by omega) (by decide) ?_
                    refine k_aload_n rfl rfl ?_
                    refine k_getR rfl rfl (sr_o S) (sr_lookTold S) ?_
                    refine k_aload_n rfl rfl ?_
                    refine k_gI (x := nI (s_lks s)) rfl rfl (sr_o S) (by simp only [i_ui, i_uj]; (repeat rw [if_neg (by omega)]); exact pr_lks P) ?_
                    refine k_lload rfl rfl ?_
                    refine k_lS rfl (sr_a13 S) rfl (by omega) (by decide) ?_
                    refine k_aload_n rfl rfl ?_
                    refine k_getR rfl rfl (sr_o S) (sr_looked S) ?_
                    refine k_bipush (v := nI 40) rfl (by decide) ?_
                    refine k_iload_n rfl rfl ?_
                    refine k_imul rfl ?_
                    refine k_aload_n rfl rfl ?_
                    refine k_iload_n rfl rfl ?_
                    have P5 : PR g (hp_uj (hp_ui (hp_ui (hp_ui h (m + 10) (s_lks s) l) (m + 11) (s_lks s) c) (m + 12) (s_lks s) (nI (LN q))) (m + 13) (s_lks s) t) m s := ⟨S, ((by simp only [i_ui, j_ui, i_uj, j_uj]; (repeat rw [if_neg (by omega)]); exact pr_cells (s := s) P)), ((by simp only [i_ui, j_ui, i_uj, j_uj]; (repeat rw [if_neg (by omega)]); exact pr_told (s := s) P)), (fun k z => (by simp only [i_ui, j_ui, i_uj, j_uj]; (repeat rw [if_neg (by omega)]); exact pr_num (s := s) P k z)), (fun k z => (by simp only [i_ui, j_ui, i_uj, j_uj]; (repeat rw [if_neg (by omega)]); exact pr_ar (s := s) P k z)), (fun t k z y => (by simp only [i_ui, j_ui, i_uj, j_uj]; (repeat rw [if_neg (by omega)]); exact pr_cn (s := s) P t k z y)), ((by simp only [i_ui, j_ui, i_uj, j_uj]; (repeat rw [if_neg (by omega)]); exact pr_things (s := s) P)), ((by simp only [i_ui, j_ui, i_uj, j_uj]; (repeat rw [if_neg (by omega)]); exact pr_lkr (s := s) P)), (fun k z => (by simp only [i_ui, j_ui, i_uj, j_uj]; (repeat rw [if_neg (by omega)]); exact pr_rt (s := s) P k z)), (fun k z => (by simp only [i_ui, j_ui, i_uj, j_uj]; (repeat rw [if_neg (by omega)]); exact pr_hr (s := s) P k z)), (fun t k z y => (by simp only [i_ui, j_ui, i_uj, j_uj]; (repeat rw [if_neg (by omega)]); exact pr_bd (s := s) P t k z y)), (fun t k z y => (by simp only [i_ui, j_ui, i_uj, j_uj]; (repeat rw [if_neg (by omega)]); exact pr_pl (s := s) P t k z y)), (fun t k z y => (by simp only [i_ui, j_ui, i_uj, j_uj]; (repeat rw [if_neg (by omega)]); exact pr_ld (s := s) P t k z y)), ((by simp only [i_ui, j_ui, i_uj, j_uj]; (repeat rw [if_neg (by omega)]); exact pr_lks (s := s) P)), (fun k z => (by simp only [i_ui, j_ui, i_uj, j_uj]; (repeat rw [if_neg (by omega)]); exact pr_gl (s := s) P k z)), (fun k z => (by simp only [i_ui, j_ui, i_uj, j_uj]; (repeat rw [if_neg (by omega)]); exact pr_gc (s := s) P k z)), (fun k z => (by simp only [i_ui, j_ui, i_uj, j_uj]; (repeat rw [if_neg (by omega)]); exact pr_gh (s := s) P k z)), (fun k z => (by simp only [i_ui, j_ui, i_uj, j_uj]; (repeat rw [if_neg (by omega)]); exact pr_gt (s := s) P k z)), ((by simp only [i_ui, j_ui, i_uj, j_uj]; (repeat rw [if_neg (by omega)]); exact pr_seen (s := s) P)), ((by simp only [i_ui, j_ui, i_uj, j_uj]; (repeat rw [if_neg (by omega)]); exact pr_ab (s := s) P)), ((by simp only [i_ui, j_ui, i_uj, j_uj]; (repeat rw [if_neg (by omega)]); exact pr_bl (s := s) P))⟩
                    have f10 : hp_i (hp_uj (hp_ui (hp_ui (hp_ui h (m + 10) (s_lks s) l) (m + 11) (s_lks s) c) (m + 12) (s_lks s) (nI (LN q))) (m + 13) (s_lks s) t) (m + 10) (s_lks s) = l := by simp [i_ui, i_uj]
                    have f11 : hp_i (hp_uj (hp_ui (hp_ui (hp_ui h (m + 10) (s_lks s) l) (m + 11) (s_lks s) c) (m + 12) (s_lks s) (nI (LN q))) (m + 13) (s_lks s) t) (m + 11) (s_lks s) = c := by simp [i_ui, i_uj]
                    have f12 : hp_i (hp_uj (hp_ui (hp_ui (hp_ui h (m + 10) (s_lks s) l) (m + 11) (s_lks s) c) (m + 12) (s_lks s) (nI (LN q))) (m + 13) (s_lks s) t) (m + 12) (s_lks s) = nI (LN q) := by simp [i_ui, i_uj]
                    have f13 : hp_j (hp_uj (hp_ui (hp_ui (hp_ui h (m + 10) (s_lks s) l) (m + 11) (s_lks s) c) (m + 12) (s_lks s) (nI (LN q))) (m + 13) (s_lks s) t) (m + 13) (s_lks s) = t := by simp [j_uj]
                    have x5 : hp_fr (inR m) h (hp_uj (hp_ui (hp_ui (hp_ui h (m + 10) (s_lks s) l) (m + 11) (s_lks s) c) (m + 12) (s_lks s) (nI (LN q))) (m + 13) (s_lks s) t) := fr_tr (fr_tr (fr_tr (fr_ui ⟨by omega, by omega⟩) (fr_ui ⟨by omega, by omega⟩)) (fr_ui ⟨by omega, by omega⟩)) (fr_uj ⟨by omega, by omega⟩)
                    generalize (hp_uj (hp_ui (hp_ui (hp_ui h (m + 10) (s_lks s) l) (m + 11) (s_lks s) c) (m + 12) (s_lks s) (nI (LN q))) (m + 13) (s_lks s) t) = h5 at P5 f10 f11 f12 f13 x5 ⊢
                    have S5 := pr_S P5
                    refine k_cV1 rfl cw_R_place wd_455 (sr_o S5) rfl (by decide) (Nat.le_of_ble_eq_true rfl) ?_
                    refine c_R_place P5 I c ?_
                    rw [hp]
                    refine k_iadd rfl ?_
                    refine k_dup2 rfl rfl rfl ?_
                    refine k_iA rfl (sr_a9 S5) (j := 40 * l0 + k) (by rw [el]; exact ix40 l0 k) (by omega) (by decide) (pr_ld P5 l0 k (by omega) hk) ?_
                    refine k_lload_n rfl rfl ?_
                    refine k_l2i rfl ?_
                    rw [show q.toInt32 = nI (LN q) from by rw [eq, lN_i, ← eq]]
                    refine k_iaddN rfl ?_
                    refine k_iS rfl (sr_a9 S5) (j := 40 * l0 + k) (by rw [el]; exact ix40 l0 k) (by omega) (by decide) ?_
                    refine k_aload_n rfl rfl ?_
                    refine k_dup rfl rfl ?_
                    refine k_gI (x := nI (s_lks s)) rfl rfl (sr_o S5) (by rw [i_ui, if_neg (by omega)]; exact pr_lks P5) ?_
                    refine k_iconst (v := nI 1) rfl (by decide) ?_
                    refine k_iaddN rfl ?_
                    refine k_putI rfl rfl rfl (sr_o S5) ?_
                    refine k_aload_n rfl rfl ?_
                    have P1 : PR g (hp_ui (hp_ui h5 (m + 9) (40 * l0 + k) (nI (s_ld s l0 k + LN q))) m 13 (nI (s_lks s + 1))) m (lkT s l.toNatClampNeg k (LN q) (LN t)) := ⟨S5, ((by simp only [i_ui, j_ui, i_uj, j_uj]; (repeat rw [if_neg (by omega)]); exact pr_cells (s := s) P5)), ((by simp only [i_ui, j_ui, i_uj, j_uj]; (repeat rw [if_neg (by omega)]); exact pr_told (s := s) P5)), (fun k z => (by simp only [i_ui, j_ui, i_uj, j_uj]; (repeat rw [if_neg (by omega)]); exact pr_num (s := s) P5 k z)), (fun k z => (by simp only [i_ui, j_ui, i_uj, j_uj]; (repeat rw [if_neg (by omega)]); exact pr_ar (s := s) P5 k z)), (fun t k z y => (by simp only [i_ui, j_ui, i_uj, j_uj]; (repeat rw [if_neg (by omega)]); exact pr_cn (s := s) P5 t k z y)), ((by simp only [i_ui, j_ui, i_uj, j_uj]; (repeat rw [if_neg (by omega)]); exact pr_things (s := s) P5)), ((by simp only [i_ui, j_ui, i_uj, j_uj]; (repeat rw [if_neg (by omega)]); exact pr_lkr (s := s) P5)), (fun k z => (by simp only [i_ui, j_ui, i_uj, j_uj]; (repeat rw [if_neg (by omega)]); exact pr_rt (s := s) P5 k z)), (fun k z => (by simp only [i_ui, j_ui, i_uj, j_uj]; (repeat rw [if_neg (by omega)]); exact pr_hr (s := s) P5 k z)), (fun t k z y => (by simp only [i_ui, j_ui, i_uj, j_uj]; (repeat rw [if_neg (by omega)]); exact pr_bd (s := s) P5 t k z y)), (fun t k z y => (by simp only [i_ui, j_ui, i_uj, j_uj]; (repeat rw [if_neg (by omega)]); exact pr_pl (s := s) P5 t k z y)), (fun l1 k1 z y => by
                        show _ = nI (ldU s l.toNatClampNeg k (LN q) l1 k1)
                        have y : k1 < s_told s := y
                        unfold ldU
                        rw [ecl]
                        rw [i_ui, if_neg (by omega), i_ui]
                        by_cases e : l1 = l0 ∧ k1 = k
                        · rw [if_pos ⟨rfl, by omega⟩, if_pos e, e.1, e.2]
                        · rw [if_neg (by omega), if_neg e]
                          exact pr_ld P5 l1 k1 z y), (by rw [i_ui, if_pos ⟨rfl, rfl⟩]; rfl), (fun i z => by
                        show _ = nI (va_up (s_gl s) (s_lks s) (l.toNatClampNeg) i)
                        have z : i < s_lks s + 1 := z
                        simp only [i_ui, j_ui]
                        (repeat rw [if_neg (by omega)])
                        by_cases e : i = s_lks s
                        · rw [e, va_up_self]; rw [ecl]; exact f10.trans el
                        · rw [va_up_ne _ _ e]; exact pr_gl P5 i (by omega)), (fun i z => by
                        show _ = nI (va_up (s_gc s) (s_lks s) (s_num s k) i)
                        have z : i < s_lks s + 1 := z
                        simp only [i_ui, j_ui]
                        (repeat rw [if_neg (by omega)])
                        by_cases e : i = s_lks s
                        · rw [e, va_up_self]; exact f11.trans (plS_c hp)
                        · rw [va_up_ne _ _ e]; exact pr_gc P5 i (by omega)), (fun i z => by
                        show _ = nI (va_up (s_gh s) (s_lks s) (LN q) i)
                        have z : i < s_lks s + 1 := z
                        simp only [i_ui, j_ui]
                        (repeat rw [if_neg (by omega)])
                        by_cases e : i = s_lks s
                        · rw [e, va_up_self]; exact f12
                        · rw [va_up_ne _ _ e]; exact pr_gh P5 i (by omega)), (fun i z => by
                        show _ = lN (va_up (s_gt s) (s_lks s) (LN t) i)
                        have z : i < s_lks s + 1 := z
                        simp only [i_ui, j_ui]
                        (repeat rw [if_neg (by omega)])
                        by_cases e : i = s_lks s
                        · rw [e, va_up_self]; exact f13.trans et
                        · rw [va_up_ne _ _ e]; exact pr_gt P5 i (by omega)), ((by simp only [i_ui, j_ui, i_uj, j_uj]; (repeat rw [if_neg (by omega)]); exact pr_seen (s := s) P5)), ((by simp only [i_ui, j_ui, i_uj, j_uj]; (repeat rw [if_neg (by omega)]); exact pr_ab (s := s) P5)), ((by simp only [i_ui, j_ui, i_uj, j_uj]; (repeat rw [if_neg (by omega)]); exact pr_bl (s := s) P5))⟩
                    have x1 : hp_fr (inR m) h (hp_ui (hp_ui h5 (m + 9) (40 * l0 + k) (nI (s_ld s l0 k + LN q))) m 13 (nI (s_lks s + 1))) := fr_tr (fr_tr x5 (fr_ui ⟨by omega, by omega⟩)) (fr_ui ⟨by omega, by omega⟩)
                    refine k_gI (x := nI (s_lks s + 1)) rfl rfl (sr_o (pr_S P1)) (pr_lks P1) ?_
                    refine k_iconst (v := nI 1) rfl (by decide) ?_
                    refine k_isubN rfl (by omega) ?_
                    refine k_iret rfl rfl (Nat.le_refl _) (Nat.le_refl _) ?_
                    exact hQ _ x1 P1
                  · refine k_iconst (v := -1) rfl (by decide) ?_
                    refine k_iret rfl rfl (Nat.le_refl _) (Nat.le_refl _) ?_
                    rw [if_pos (Or.inr (Or.inr (Or.inr (Or.inr (Or.inr ((Int64.not_le.mp c60)))))))] at hQ; exact hQ h fr_rf P
