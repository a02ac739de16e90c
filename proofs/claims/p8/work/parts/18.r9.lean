def cnU (s : St) (t k v : Nat) : Nat → Nat → Nat := fun t1 k1 => if t1 = t ∧ k1 = k then v else s_cn s t1 k1
def cuS (s : St) (t c : Int32) (n : Int64) : Bool × St := if t < 0 ∨ nI (s_things s) ≤ t ∨ isc (nI (s_cells s)) c = false ∨ s_seen s ≠ none ∨ n < 0 ∨ 1000 < n ∨ (plS s c = none ∧ s_told s = 40) then (false, s) else (true, zeroP (w_cn (tlS s c).2 (cnU (tlS s c).2 t.toNatClampNeg (tlS s c).1 (LN n))))
def arS (s : St) (c : Int32) (n : Int64) : Bool × St := if isc (nI (s_cells s)) c = false ∨ 0 < s_lks s ∨ n < 1 ∨ 720 < n ∨ ¬ 720 % LN n = 0 ∨ (plS s c = none ∧ s_told s = 40) then (false, s) else (true, zeroP (w_ar (tlS s c).2 (va_up (s_ar (tlS s c).2) (tlS s c).1 (LN n))))
theorem tlS_told {s : St} {c : Int32} (I : Inv s) (h : ¬ (plS s c = none ∧ s_told s = 40)) : (tlS s c).1 < s_told (tlS s c).2 ∧ s_told (tlS s c).2 ≤ 40 := by
  have bT := v_told I
  unfold tlS
  cases hp : plS s c with
  | some k => exact ⟨plS_lt hp, bT⟩
  | none =>
    have h1 := dnF_le (s_num s) c.toNatClampNeg (s_told s)
    have h2 : s_told s ≠ 40 := fun z => h ⟨hp, z⟩
    show dnF _ _ _ < s_told s + 1 ∧ s_told s + 1 ≤ 40
    omega
theorem tlS_room {s : St} {c : Int32} (I : Inv s) (h : ¬ (plS s c = none ∧ s_told s = 40)) : plS s c ≠ none ∨ s_told s < 40 := by
  have bT := v_told I
  by_cases e : plS s c = none
  · right
    have : s_told s ≠ 40 := fun z => h ⟨e, z⟩
    omega
  · exact Or.inl e
theorem lN720 : (720 : Int64) = lN 720 := by decide +kernel
theorem c_R_countsOf {g : Gx} {h : Hp} {m d : Nat} {s : St} {Q : Option Value → Hp → Prop} (P : PR g h m s) (I : Inv s) (t c : Int32) (n : Int64) (hQ : ∀ h1, hp_fr (inR m) h h1 → PR g h1 m (cuS s t c n).2 → Q (some (.int (bI (cuS s t c n).1))) h1) : Ct g M_R_countsOf (d + 2) 0 0 [.ref m, .int t, .int c, .long n] h Q := by
  have S := pr_S P
  have bT := v_told I
  have bL := v_lkr I
  refine ct_of ok_R_countsOf (by decide) (Nat.le_of_ble_eq_true rfl) [some (.ref m), some (.int t), some (.int c), some (.long n), none, none] rfl rfl ?_
  have bt := v_things I
  have hcb := v_cells I
  unfold cuS at hQ
  have J : ¬ (plS s c = none ∧ s_told s = 40) → ¬ t < 0 → ¬ nI (s_things s) ≤ t → isc (nI (s_cells s)) c = true → ¬ s_seen s ≠ none → ¬ n < 0 → ¬ (1000 : Int64) < n → Om g M_R_countsOf (d + 2) Q h 62 [some (.ref m), some (.int t), some (.int c), some (.long n), none, none] [] := by
    intro hno c1 c9 hcc hse c30 c38
    rw [if_neg (by
      intro z
      rcases z with z | z | z | z | z | z | z
      · exact c1 z
      · exact c9 z
      · rw [hcc] at z; cases z
      · exact hse z
      · exact c30 z
      · exact c38 z
      · exact hno z)] at hQ
    obtain ⟨t0, ht0, et⟩ := nI_of c1
    have ht4 : t0 < s_things s := by rw [et] at c9; exact Nat.not_le.mp (fun z => c9 (nI_le z ht0))
    have etl : t.toNatClampNeg = t0 := by rw [et, nI_clamp ht0]
    rw [etl] at hQ
    obtain ⟨en, bn⟩ := LN_of c30
    obtain ⟨hk2, ht2⟩ := tlS_told I hno
    simp only at hQ
    refine k_aload_n rfl rfl ?_
    refine k_iload_n rfl rfl ?_
    refine k_cV1 rfl cw_R_tell wd_459 (sr_o S) rfl (by decide) (Nat.le_of_ble_eq_true rfl) ?_
    refine c_R_tell P I c hcc (tlS_room I hno) (fun h2 x2 P2 => ?_)
    refine k_ist5 rfl rfl ?_
    have S2 := pr_S P2
    generalize (tlS s c).1 = k2 at hQ hk2 ⊢
    generalize (tlS s c).2 = s2 at hQ hk2 ht2 P2
    refine k_aload_n rfl rfl ?_
    refine k_getR rfl rfl (sr_o S2) (sr_count S2) ?_
    refine k_bipush (v := nI 40) rfl (by decide) ?_
    refine k_iload_n rfl rfl ?_
    refine k_imul rfl ?_
    refine k_iload rfl rfl ?_
    refine k_iadd rfl ?_
    refine k_lload_n rfl rfl ?_
    refine k_l2i rfl ?_
    rw [show n.toInt32 = nI (LN n) from by rw [en, lN_i, ← en]]
    refine k_iS rfl (sr_a3 S2) (j := 40 * t0 + k2) (by rw [et]; exact ix40 t0 k2) (by omega) (by decide) ?_
    refine k_aload_n rfl rfl ?_
    have P3 : PR g (hp_ui h2 (m + 3) (40 * t0 + k2) (nI (LN n))) m (w_cn s2 (cnU s2 t0 k2 (LN n))) := ⟨S2, ((by simp only [i_ui, j_ui, i_uj, j_uj]; (repeat rw [if_neg (by omega)]); exact pr_cells (s := s2) P2)), ((by simp only [i_ui, j_ui, i_uj, j_uj]; (repeat rw [if_neg (by omega)]); exact pr_told (s := s2) P2)), (fun k z => (by simp only [i_ui, j_ui, i_uj, j_uj]; (repeat rw [if_neg (by omega)]); exact pr_num (s := s2) P2 k z)), (fun k z => (by simp only [i_ui, j_ui, i_uj, j_uj]; (repeat rw [if_neg (by omega)]); exact pr_ar (s := s2) P2 k z)), (fun t1 k1 z y => by
        show _ = nI (cnU s2 t0 k2 (LN n) t1 k1)
        unfold cnU
        have y : k1 < s_told s2 := y
        rw [i_ui]
        by_cases e : t1 = t0 ∧ k1 = k2
        · rw [if_pos ⟨rfl, by omega⟩, if_pos e]
        · rw [if_neg (by omega), if_neg e]
          exact pr_cn P2 t1 k1 z y), ((by simp only [i_ui, j_ui, i_uj, j_uj]; (repeat rw [if_neg (by omega)]); exact pr_things (s := s2) P2)), ((by simp only [i_ui, j_ui, i_uj, j_uj]; (repeat rw [if_neg (by omega)]); exact pr_lkr (s := s2) P2)), (fun k z => (by simp only [i_ui, j_ui, i_uj, j_uj]; (repeat rw [if_neg (by omega)]); exact pr_rt (s := s2) P2 k z)), (fun k z => (by simp only [i_ui, j_ui, i_uj, j_uj]; (repeat rw [if_neg (by omega)]); exact pr_hr (s := s2) P2 k z)), (fun t k z y => (by simp only [i_ui, j_ui, i_uj, j_uj]; (repeat rw [if_neg (by omega)]); exact pr_bd (s := s2) P2 t k z y)), (fun t k z y => (by simp only [i_ui, j_ui, i_uj, j_uj]; (repeat rw [if_neg (by omega)]); exact pr_pl (s := s2) P2 t k z y)), (fun t k z y => (by simp only [i_ui, j_ui, i_uj, j_uj]; (repeat rw [if_neg (by omega)]); exact pr_ld (s := s2) P2 t k z y)), ((by simp only [i_ui, j_ui, i_uj, j_uj]; (repeat rw [if_neg (by omega)]); exact pr_lks (s := s2) P2)), (fun k z => (by simp only [i_ui, j_ui, i_uj, j_uj]; (repeat rw [if_neg (by omega)]); exact pr_gl (s := s2) P2 k z)), (fun k z => (by simp only [i_ui, j_ui, i_uj, j_uj]; (repeat rw [if_neg (by omega)]); exact pr_gc (s := s2) P2 k z)), (fun k z => (by simp only [i_ui, j_ui, i_uj, j_uj]; (repeat rw [if_neg (by omega)]); exact pr_gh (s := s2) P2 k z)), (fun k z => (by simp only [i_ui, j_ui, i_uj, j_uj]; (repeat rw [if_neg (by omega)]); exact pr_gt (s := s2) P2 k z)), ((by simp only [i_ui, j_ui, i_uj, j_uj]; (repeat rw [if_neg (by omega)]); exact pr_seen (s := s2) P2)), ((by simp only [i_ui, j_ui, i_uj, j_uj]; (repeat rw [if_neg (by omega)]); exact pr_ab (s := s2) P2)), ((by simp only [i_ui, j_ui, i_uj, j_uj]; (repeat rw [if_neg (by omega)]); exact pr_bl (s := s2) P2))⟩
    have x3 : hp_fr (inR m) h (hp_ui h2 (m + 3) (40 * t0 + k2) (nI (LN n))) := fr_tr x2 (fr_ui ⟨by omega, by omega⟩)
    refine k_cV0 rfl cw_R_changed wd_467 (sr_o S2) rfl (by decide) (Nat.le_of_ble_eq_true rfl) ?_
    refine c_R_changed P3 (fun h4 x4 P4 => ?_)
    refine k_iconst (v := nI 1) rfl (by decide) ?_
    refine k_zret rfl rfl (by decide) (Nat.le_refl _) (Nat.le_refl _) ?_
    exact hQ h4 (fr_tr x3 x4) P4
  refine k_iload_n rfl rfl ?_
  refine k_if_lt rfl (fun c1 => ?_) (fun c1 => ?_)
  · refine k_iconst (v := nI 0) rfl (by decide) ?_
    refine k_zret rfl rfl (by decide) (Nat.le_refl _) (Nat.le_refl _) ?_
    rw [if_pos (Or.inl (c1))] at hQ; exact hQ h fr_rf P
  · refine k_iload_n rfl rfl ?_
    refine k_aload_n rfl rfl ?_
    refine k_gI rfl rfl (sr_o S) (pr_things P) ?_
    refine k_icmp_ge rfl (fun c9 => ?_) (fun c9 => ?_)
    · refine k_iconst (v := nI 0) rfl (by decide) ?_
      refine k_zret rfl rfl (by decide) (Nat.le_refl _) (Nat.le_refl _) ?_
      rw [if_pos (Or.inr (Or.inl (c9)))] at hQ; exact hQ h fr_rf P
    · refine k_aload_n rfl rfl ?_
      refine k_iload_n rfl rfl ?_
      refine k_cV1 rfl cw_R_isCell wd_450 (sr_o S) rfl (by decide) (Nat.le_of_ble_eq_true rfl) ?_
      refine c_R_isCell P I c ?_
      refine kb_eq rfl (fun c17 => ?_) (fun c17 => ?_)
      · refine k_iconst (v := nI 0) rfl (by decide) ?_
        refine k_zret rfl rfl (by decide) (Nat.le_refl _) (Nat.le_refl _) ?_
        rw [if_pos (Or.inr (Or.inr (Or.inl (c17))))] at hQ; exact hQ h fr_rf P
      · refine k_aload_n rfl rfl ?_
        refine k_gI rfl rfl (sr_o S) (pr_seen P) ?_
        refine k_iconst (v := -1) rfl (by decide) ?_
        refine k_icmp_ne rfl (fun c25 => ?_) (fun c25 => ?_)
        · have hse : s_seen s ≠ none := fun z => c25 (by rw [z]; rfl)
          refine k_iconst (v := nI 0) rfl (by decide) ?_
          refine k_zret rfl rfl (by decide) (Nat.le_refl _) (Nat.le_refl _) ?_
          rw [if_pos (Or.inr (Or.inr (Or.inr (Or.inl (hse)))))] at hQ; exact hQ h fr_rf P
        · have hse : ¬ s_seen s ≠ none := by
            cases hs : s_seen s with
            | none => simp
            | some q => rw [hs] at c25; exact absurd c25 (nI_m1 (by have := v_seen I q hs; omega))
          refine k_lload_n rfl rfl ?_
          refine k_lconst (v := 0) rfl (by decide) ?_
          refine kl_lt rfl rfl (fun c30 => ?_) (fun c30 => ?_)
          · refine k_iconst (v := nI 0) rfl (by decide) ?_
            refine k_zret rfl rfl (by decide) (Nat.le_refl _) (Nat.le_refl _) ?_
            rw [if_pos (Or.inr (Or.inr (Or.inr (Or.inr (Or.inl (c30))))))] at hQ; exact hQ h fr_rf P
          · refine k_lload_n rfl rfl ?_
            refine k_ldc2 rfl wd_454 ?_
            refine kl_gt rfl rfl (fun c38 => ?_) (fun c38 => ?_)
            · refine k_iconst (v := nI 0) rfl (by decide) ?_
              refine k_zret rfl rfl (by decide) (Nat.le_refl _) (Nat.le_refl _) ?_
              rw [if_pos (Or.inr (Or.inr (Or.inr (Or.inr (Or.inr (Or.inl (c38)))))))] at hQ; exact hQ h fr_rf P
            · refine k_aload_n rfl rfl ?_
              refine k_iload_n rfl rfl ?_
              refine k_cV1 rfl cw_R_place wd_455 (sr_o S) rfl (by decide) (Nat.le_of_ble_eq_true rfl) ?_
              refine c_R_place P I c ?_
              refine k_iconst (v := -1) rfl (by decide) ?_
              refine k_icmp_ne rfl (fun c48 => ?_) (fun c48 => ?_)
              · have hno : ¬ (plS s c = none ∧ s_told s = 40) := fun z => c48 (by rw [z.1]; rfl)
                exact J hno c1 c9 c17 hse c30 c38
              · have hpn : plS s c = none := by
                  cases hp : plS s c with
                  | none => rfl
                  | some k => rw [hp] at c48; exact absurd c48 (nI_m1 (by have := plS_lt hp; omega))
                refine k_aload_n rfl rfl ?_
                refine k_gI rfl rfl (sr_o S) (pr_told P) ?_
                refine k_bipush (v := nI 40) rfl (by decide) ?_
                refine kn_ne rfl (by omega) (by omega) (fun c57 => ?_) (fun c57 => ?_)
                · have hno : ¬ (plS s c = none ∧ s_told s = 40) := fun z => c57 z.2
                  exact J hno c1 c9 c17 hse c30 c38
                · refine k_iconst (v := nI 0) rfl (by decide) ?_
                  refine k_zret rfl rfl (by decide) (Nat.le_refl _) (Nat.le_refl _) ?_
                  rw [if_pos (Or.inr (Or.inr (Or.inr (Or.inr (Or.inr (Or.inr ((⟨hpn, c57⟩))))))))] at hQ; exact hQ h fr_rf P
theorem c_R_counts {g : Gx} {h : Hp} {m d : Nat} {s : St} {Q : Option Value → Hp → Prop} (P : PR g h m s) (I : Inv s) (c : Int32) (n : Int64) (hQ : ∀ h1, hp_fr (inR m) h h1 → PR g h1 m (cuS s 0 c n).2 → Q (some (.int (bI (cuS s 0 c n).1))) h1) : Ct g M_R_counts (d + 3) 0 0 [.ref m, .int c, .long n] h Q := by
  have S := pr_S P
  have bT := v_told I
  have bL := v_lkr I
  refine ct_of ok_R_counts (by decide) (Nat.le_of_ble_eq_true rfl) [some (.ref m), some (.int c), some (.long n), none] rfl rfl ?_
  refine k_aload_n rfl rfl ?_
  refine k_iconst (v := 0) rfl (by decide) ?_
  refine k_iload_n rfl rfl ?_
  refine k_lload_n rfl rfl ?_
  refine k_cV3 rfl cw_R_countsOf wd_446 (sr_o S) rfl (by decide) (Nat.le_of_ble_eq_true rfl) ?_
  refine c_R_countsOf P I 0 c n (fun h2 x2 P2 => ?_)
  refine k_zret rfl rfl (bI_nar _) (Nat.le_refl _) (Nat.le_refl _) ?_
  exact hQ h2 x2 P2
theorem c_R_area {g : Gx} {h : Hp} {m d : Nat} {s : St} {Q : Option Value → Hp → Prop} (P : PR g h m s) (I : Inv s) (c : Int32) (n : Int64) (hQ : ∀ h1, hp_fr (inR m) h h1 → PR g h1 m (arS s c n).2 → Q (some (.int (bI (arS s c n).1))) h1) : Ct g M_R_area (d + 2) 0 0 [.ref m, .int c, .long n] h Q := by
  have S := pr_S P
  have bT := v_told I
  have bL := v_lkr I
  refine ct_of ok_R_area (by decide) (Nat.le_of_ble_eq_true rfl) [some (.ref m), some (.int c), some (.long n), none, none] rfl rfl ?_
  have bK := v_lks I
  have hcb := v_cells I
  unfold arS at hQ
  have J : ¬ (plS s c = none ∧ s_told s = 40) → isc (nI (s_cells s)) c = true → ¬ 0 < nI (s_lks s) → ¬ n < 1 → ¬ (720 : Int64) < n → 720 % LN n = 0 → Om g M_R_area (d + 2) Q h 59 [some (.ref m), some (.int c), some (.long n), none, none] [] := by
    intro hno hcc c12 c17 c25 c35
    rw [if_neg (by
      intro z
      rcases z with z | z | z | z | z | z
      · rw [hcc] at z; cases z
      · exact c12 ((nI_0lt (by omega)).mpr z)
      · exact c17 z
      · exact c25 z
      · exact z c35
      · exact hno z)] at hQ
    obtain ⟨en, bn⟩ := LN_of (x := n) (fun z => c17 (Int64.lt_trans z (by decide)))
    obtain ⟨hk2, ht2⟩ := tlS_told I hno
    simp only at hQ
    refine k_aload_n rfl rfl ?_
    refine k_iload_n rfl rfl ?_
    refine k_cV1 rfl cw_R_tell wd_459 (sr_o S) rfl (by decide) (Nat.le_of_ble_eq_true rfl) ?_
    refine c_R_tell P I c hcc (tlS_room I hno) (fun h2 x2 P2 => ?_)
    refine k_ist4 rfl rfl ?_
    have S2 := pr_S P2
    generalize (tlS s c).1 = k2 at hQ hk2 ⊢
    generalize (tlS s c).2 = s2 at hQ hk2 ht2 P2
    refine k_aload_n rfl rfl ?_
    refine k_getR rfl rfl (sr_o S2) (sr_areas S2) ?_
    refine k_iload rfl rfl ?_
    refine k_lload_n rfl rfl ?_
    refine k_l2i rfl ?_
    rw [show n.toInt32 = nI (LN n) from by rw [en, lN_i, ← en]]
    refine k_iS rfl (sr_a2 S2) rfl (by omega) (by decide) ?_
    refine k_aload_n rfl rfl ?_
    have P3 : PR g (hp_ui h2 (m + 2) k2 (nI (LN n))) m (w_ar s2 (va_up (s_ar s2) k2 (LN n))) := ⟨S2, ((by simp only [i_ui, j_ui, i_uj, j_uj]; (repeat rw [if_neg (by omega)]); exact pr_cells (s := s2) P2)), ((by simp only [i_ui, j_ui, i_uj, j_uj]; (repeat rw [if_neg (by omega)]); exact pr_told (s := s2) P2)), (fun k z => (by simp only [i_ui, j_ui, i_uj, j_uj]; (repeat rw [if_neg (by omega)]); exact pr_num (s := s2) P2 k z)), (fun k1 y => by
        show _ = nI (va_up (s_ar s2) k2 (LN n) k1)
        have y : k1 < s_told s2 := y
        rw [i_ui]
        by_cases e : k1 = k2
        · rw [if_pos ⟨rfl, e⟩, e, va_up_self]
        · rw [if_neg (by omega), va_up_ne _ _ e]
          exact pr_ar P2 k1 y), (fun t k z y => (by simp only [i_ui, j_ui, i_uj, j_uj]; (repeat rw [if_neg (by omega)]); exact pr_cn (s := s2) P2 t k z y)), ((by simp only [i_ui, j_ui, i_uj, j_uj]; (repeat rw [if_neg (by omega)]); exact pr_things (s := s2) P2)), ((by simp only [i_ui, j_ui, i_uj, j_uj]; (repeat rw [if_neg (by omega)]); exact pr_lkr (s := s2) P2)), (fun k z => (by simp only [i_ui, j_ui, i_uj, j_uj]; (repeat rw [if_neg (by omega)]); exact pr_rt (s := s2) P2 k z)), (fun k z => (by simp only [i_ui, j_ui, i_uj, j_uj]; (repeat rw [if_neg (by omega)]); exact pr_hr (s := s2) P2 k z)), (fun t k z y => (by simp only [i_ui, j_ui, i_uj, j_uj]; (repeat rw [if_neg (by omega)]); exact pr_bd (s := s2) P2 t k z y)), (fun t k z y => (by simp only [i_ui, j_ui, i_uj, j_uj]; (repeat rw [if_neg (by omega)]); exact pr_pl (s := s2) P2 t k z y)), (fun t k z y => (by simp only [i_ui, j_ui, i_uj, j_uj]; (repeat rw [if_neg (by omega)]); exact pr_ld (s := s2) P2 t k z y)), ((by simp only [i_ui, j_ui, i_uj, j_uj]; (repeat rw [if_neg (by omega)]); exact pr_lks (s := s2) P2)), (fun k z => (by simp only [i_ui, j_ui, i_uj, j_uj]; (repeat rw [if_neg (by omega)]); exact pr_gl (s := s2) P2 k z)), (fun k z => (by simp only [i_ui, j_ui, i_uj, j_uj]; (repeat rw [if_neg (by omega)]); exact pr_gc (s := s2) P2 k z)), (fun k z => (by simp only [i_ui, j_ui, i_uj, j_uj]; (repeat rw [if_neg (by omega)]); exact pr_gh (s := s2) P2 k z)), (fun k z => (by simp only [i_ui, j_ui, i_uj, j_uj]; (repeat rw [if_neg (by omega)]); exact pr_gt (s := s2) P2 k z)), ((by simp only [i_ui, j_ui, i_uj, j_uj]; (repeat rw [if_neg (by omega)]); exact pr_seen (s := s2) P2)), ((by simp only [i_ui, j_ui, i_uj, j_uj]; (repeat rw [if_neg (by omega)]); exact pr_ab (s := s2) P2)), ((by simp only [i_ui, j_ui, i_uj, j_uj]; (repeat rw [if_neg (by omega)]); exact pr_bl (s := s2) P2))⟩
    have x3 : hp_fr (inR m) h (hp_ui h2 (m + 2) k2 (nI (LN n))) := fr_tr x2 (fr_ui ⟨by omega, by omega⟩)
    refine k_cV0 rfl cw_R_changed wd_467 (sr_o S2) rfl (by decide) (Nat.le_of_ble_eq_true rfl) ?_
    refine c_R_changed P3 (fun h4 x4 P4 => ?_)
    refine k_iconst (v := nI 1) rfl (by decide) ?_
    refine k_zret rfl rfl (by decide) (Nat.le_refl _) (Nat.le_refl _) ?_
    exact hQ h4 (fr_tr x3 x4) P4
  refine k_aload_n rfl rfl ?_
  refine k_iload_n rfl rfl ?_
  refine k_cV1 rfl cw_R_isCell wd_450 (sr_o S) rfl (by decide) (Nat.le_of_ble_eq_true rfl) ?_
  refine c_R_isCell P I c ?_
  refine kb_eq rfl (fun c5 => ?_) (fun c5 => ?_)
  · refine k_iconst (v := nI 0) rfl (by decide) ?_
    refine k_zret rfl rfl (by decide) (Nat.le_refl _) (Nat.le_refl _) ?_
    rw [if_pos (Or.inl (c5))] at hQ; exact hQ h fr_rf P
  · refine k_aload_n rfl rfl ?_
    refine k_gI rfl rfl (sr_o S) (pr_lks P) ?_
    refine k_if_gt rfl (fun c12 => ?_) (fun c12 => ?_)
    · refine k_iconst (v := nI 0) rfl (by decide) ?_
      refine k_zret rfl rfl (by decide) (Nat.le_refl _) (Nat.le_refl _) ?_
      rw [if_pos (Or.inr (Or.inl ((nI_0lt (by omega)).mp c12)))] at hQ; exact hQ h fr_rf P
    · refine k_lload_n rfl rfl ?_
      refine k_lconst (v := 1) rfl (by decide) ?_
      refine kl_lt rfl rfl (fun c17 => ?_) (fun c17 => ?_)
      · refine k_iconst (v := nI 0) rfl (by decide) ?_
        refine k_zret rfl rfl (by decide) (Nat.le_refl _) (Nat.le_refl _) ?_
        rw [if_pos (Or.inr (Or.inr (Or.inl (c17))))] at hQ; exact hQ h fr_rf P
      · refine k_lload_n rfl rfl ?_
        refine k_ldc2 rfl wd_497 ?_
        refine kl_gt rfl rfl (fun c25 => ?_) (fun c25 => ?_)
        · refine k_iconst (v := nI 0) rfl (by decide) ?_
          refine k_zret rfl rfl (by decide) (Nat.le_refl _) (Nat.le_refl _) ?_
          rw [if_pos (Or.inr (Or.inr (Or.inr (Or.inl (c25)))))] at hQ; exact hQ h fr_rf P
        · have nn : ¬ n < 0 := fun z => c17 (Int64.lt_trans z (by decide))
          obtain ⟨en, bn⟩ := LN_of nn
          have n1 : 1 ≤ LN n := LN_ge (by decide) nn c17
          have n7 : LN n ≤ 720 := LN_le nn (by decide) c25
          refine k_ldc2 rfl wd_497 ?_
          rw [lN720]
          refine k_lload_n rfl rfl ?_
          rw [show (Value.long n) = Value.long (lN (LN n)) from congrArg _ en]
          refine k_lremN rfl (by decide) (by omega) (by omega) ?_
          refine k_lconst (v := lN 0) rfl (by decide) ?_
          have hml : 720 % LN n < LN n := Nat.mod_lt _ n1
          refine klN_ne rfl rfl (by omega) (by decide) (fun c35 => ?_) (fun c35 => ?_)
          · refine k_iconst (v := nI 0) rfl (by decide) ?_
            refine k_zret rfl rfl (by decide) (Nat.le_refl _) (Nat.le_refl _) ?_
            rw [if_pos (Or.inr (Or.inr (Or.inr (Or.inr (Or.inl (c35))))))] at hQ; exact hQ h fr_rf P
          · refine k_aload_n rfl rfl ?_
            refine k_iload_n rfl rfl ?_
            refine k_cV1 rfl cw_R_place wd_455 (sr_o S) rfl (by decide) (Nat.le_of_ble_eq_true rfl) ?_
            refine c_R_place P I c ?_
            refine k_iconst (v := -1) rfl (by decide) ?_
            refine k_icmp_ne rfl (fun c45 => ?_) (fun c45 => ?_)
            · have hno : ¬ (plS s c = none ∧ s_told s = 40) := fun z => c45 (by rw [z.1]; rfl)
              rw [← en]
              exact J hno c5 c12 c17 c25 c35
            · have hpn : plS s c = none := by
                cases hp : plS s c with
                | none => rfl
                | some k => rw [hp] at c45; exact absurd c45 (nI_m1 (by have := plS_lt hp; omega))
              refine k_aload_n rfl rfl ?_
              refine k_gI rfl rfl (sr_o S) (pr_told P) ?_
              refine k_bipush (v := nI 40) rfl (by decide) ?_
              refine kn_ne rfl (by omega) (by omega) (fun c54 => ?_) (fun c54 => ?_)
              · have hno : ¬ (plS s c = none ∧ s_told s = 40) := fun z => c54 z.2
                rw [← en]
                exact J hno c5 c12 c17 c25 c35
              · refine k_iconst (v := nI 0) rfl (by decide) ?_
                refine k_zret rfl rfl (by decide) (Nat.le_refl _) (Nat.le_refl _) ?_
                rw [if_pos (Or.inr (Or.inr (Or.inr (Or.inr (Or.inr ((⟨hpn, c54⟩)))))))] at hQ; exact hQ h fr_rf P
