theorem c_R_isCell {g : Gx} {h : Hp} {m d : Nat} {s : St} {Q : Option Value → Hp → Prop} (P : PR g h m s) (I : Inv s) (c : Int32) (hQ : Q (some (.int (bI (isc (nI (s_cells s)) c)))) h) : Ct g M_R_isCell d 0 0 [.ref m, .int c] h Q := by
  have S := pr_S P
  have bT := v_told I
  have bL := v_lkr I
  refine ct_of ok_R_isCell (by decide) (Nat.le_of_ble_eq_true rfl) [some (.ref m), some (.int c)] rfl rfl ?_
  skip
  refine k_iload_n rfl rfl ?_
  refine k_if_lt rfl (fun c1 => ?_) (fun c1 => ?_)
  · refine k_iconst (v := nI 0) rfl (by decide) ?_
    refine k_zret rfl rfl (by decide) (Nat.le_refl _) (Nat.le_refl _) ?_
    rw [show (nI 0 : Int32) = bI (isc (nI (s_cells s)) c) from by simp only [isc, bI]; simp [nI_0, nI_one, Int32.not_le.mpr c1]]; exact hQ
  · refine k_iload_n rfl rfl ?_
    refine k_aload_n rfl rfl ?_
    refine k_gI rfl rfl (sr_o S) (pr_cells P) ?_
    refine k_icmp_ge rfl (fun c9 => ?_) (fun c9 => ?_)
    · refine k_iconst (v := nI 0) rfl (by decide) ?_
      refine k_zret rfl rfl (by decide) (Nat.le_refl _) (Nat.le_refl _) ?_
      rw [show (nI 0 : Int32) = bI (isc (nI (s_cells s)) c) from by simp only [isc, bI]; simp [nI_0, nI_one, Int32.not_lt.mpr c9]]; exact hQ
    · refine k_iconst (v := nI 1) rfl (by decide) ?_
      refine k_goto rfl ?_
      refine k_zret rfl rfl (by decide) (Nat.le_refl _) (Nat.le_refl _) ?_
      rw [show (nI 1 : Int32) = bI (isc (nI (s_cells s)) c) from by simp only [isc, bI]; simp [nI_0, nI_one, Int32.not_lt.mp c1, Int32.not_le.mp c9]]; exact hQ
theorem c_R_isLooker {g : Gx} {h : Hp} {m d : Nat} {s : St} {Q : Option Value → Hp → Prop} (P : PR g h m s) (I : Inv s) (c : Int32) (hQ : Q (some (.int (bI (isc (nI (s_lkr s)) c)))) h) : Ct g M_R_isLooker d 0 0 [.ref m, .int c] h Q := by
  have S := pr_S P
  have bT := v_told I
  have bL := v_lkr I
  refine ct_of ok_R_isLooker (by decide) (Nat.le_of_ble_eq_true rfl) [some (.ref m), some (.int c)] rfl rfl ?_
  skip
  refine k_iload_n rfl rfl ?_
  refine k_if_lt rfl (fun c1 => ?_) (fun c1 => ?_)
  · refine k_iconst (v := nI 0) rfl (by decide) ?_
    refine k_zret rfl rfl (by decide) (Nat.le_refl _) (Nat.le_refl _) ?_
    rw [show (nI 0 : Int32) = bI (isc (nI (s_lkr s)) c) from by simp only [isc, bI]; simp [nI_0, nI_one, Int32.not_le.mpr c1]]; exact hQ
  · refine k_iload_n rfl rfl ?_
    refine k_aload_n rfl rfl ?_
    refine k_gI rfl rfl (sr_o S) (pr_lkr P) ?_
    refine k_icmp_ge rfl (fun c9 => ?_) (fun c9 => ?_)
    · refine k_iconst (v := nI 0) rfl (by decide) ?_
      refine k_zret rfl rfl (by decide) (Nat.le_refl _) (Nat.le_refl _) ?_
      rw [show (nI 0 : Int32) = bI (isc (nI (s_lkr s)) c) from by simp only [isc, bI]; simp [nI_0, nI_one, Int32.not_lt.mpr c9]]; exact hQ
    · refine k_iconst (v := nI 1) rfl (by decide) ?_
      refine k_goto rfl ?_
      refine k_zret rfl rfl (by decide) (Nat.le_refl _) (Nat.le_refl _) ?_
      rw [show (nI 1 : Int32) = bI (isc (nI (s_lkr s)) c) from by simp only [isc, bI]; simp [nI_0, nI_one, Int32.not_lt.mp c1, Int32.not_le.mp c9]]; exact hQ
theorem c_R_place {g : Gx} {h : Hp} {m d : Nat} {s : St} {Q : Option Value → Hp → Prop} (P : PR g h m s) (I : Inv s) (c : Int32) (hQ : Q (some (.int (sI (plS s c)))) h) : Ct g M_R_place d 0 0 [.ref m, .int c] h Q := by
  have S := pr_S P
  have bT := v_told I
  have bL := v_lkr I
  refine ct_of ok_R_place (by decide) (Nat.le_of_ble_eq_true rfl) [some (.ref m), some (.int c), none] rfl rfl ?_
  refine k_iconst (v := nI 0) rfl (by decide) ?_
  refine k_ist2 rfl rfl ?_
  have e0 : plS s c = plc (hp_i h (m + 1)) c (s_told s) 0 := plc_cong _ _ (fun k _ hk => (pr_num P k (by omega)).symm)
  rw [e0] at hQ
  suffices H : ∀ (q i : Nat), i + q = s_told s → plc (hp_i h (m + 1)) c (s_told s) 0 = plc (hp_i h (m + 1)) c q i → Om g M_R_place d Q h 2 [some (.ref m), some (.int c), some (.int (nI i))] [] from H _ 0 (Nat.zero_add _) rfl
  intro q
  induction q with
  | zero =>
    intro i hi e
    refine k_iload_n rfl rfl ?_
    refine k_aload_n rfl rfl ?_
    refine k_gI rfl rfl (sr_o S) (pr_told P) ?_
    refine kn_ge rfl (by omega) (by omega) (fun c7 => ?_) (fun c7 => ?_)
    · refine k_iconst (v := -1) rfl (by decide) ?_
      refine k_iret rfl rfl (Nat.le_refl _) (Nat.le_refl _) ?_
      rw [e] at hQ; exact hQ
    · exact absurd c7 (by omega)
  | succ q ih =>
    intro i hi e
    refine k_iload_n rfl rfl ?_
    refine k_aload_n rfl rfl ?_
    refine k_gI rfl rfl (sr_o S) (pr_told P) ?_
    refine kn_ge rfl (by omega) (by omega) (fun c7 => ?_) (fun c7 => ?_)
    · exact absurd c7 (by omega)
    · refine k_aload_n rfl rfl ?_
      refine k_getR rfl rfl (sr_o S) (sr_cell S) ?_
      refine k_iload_n rfl rfl ?_
      refine k_iA rfl (sr_a1 S) rfl (by omega) (by decide) rfl ?_
      refine k_iload_n rfl rfl ?_
      refine k_icmp_ne rfl (fun c17 => ?_) (fun c17 => ?_)
      · refine k_incN2 rfl rfl ?_
        refine k_goto rfl ?_
        exact ih (i + 1) (by omega) (by rw [e]; simp only [plc]; rw [if_neg c17])
      · refine k_iload_n rfl rfl ?_
        refine k_iret rfl rfl (Nat.le_refl _) (Nat.le_refl _) ?_
        rw [e] at hQ; simp only [plc] at hQ; rw [if_pos c17] at hQ; exact hQ
def zeroP (s : St) : St := w_pl s (fun _ _ => 0)
theorem PR_pl {g : Gx} {h h1 : Hp} {m : Nat} {s : St} {f : Nat → Nat → Nat} (P : PR g h m s) (x : hp_fr (fun a => a = m + 7) h h1) (hr : hp_r h1 = hp_r h) (e : ∀ l k, l < 4 → k < 40 → hp_i h1 (m + 7) (40 * l + k) = nI (f l k)) : PR g h1 m (w_pl s f) := by
  have hi : ∀ a, a ≠ m + 7 → ∀ j, hp_i h1 a j = hp_i h a j := fun a ha j => fr_i x ha j
  have hj : ∀ a, a ≠ m + 7 → ∀ j, hp_j h1 a j = hp_j h a j := fun a ha j => fr_j x ha j
  exact ⟨sr_fr (pr_S P) x (by rw [hr]), ((hi _ (by omega) _).trans (pr_cells (s := s) P)), ((hi _ (by omega) _).trans (pr_told (s := s) P)), (fun k z => (hi _ (by omega) _).trans (pr_num (s := s) P k z)), (fun k z => (hi _ (by omega) _).trans (pr_ar (s := s) P k z)), (fun t k z y => (hi _ (by omega) _).trans (pr_cn (s := s) P t k z y)), ((hi _ (by omega) _).trans (pr_things (s := s) P)), ((hi _ (by omega) _).trans (pr_lkr (s := s) P)), (fun k z => (hi _ (by omega) _).trans (pr_rt (s := s) P k z)), (fun k z => (hi _ (by omega) _).trans (pr_hr (s := s) P k z)), (fun t k z y => (hi _ (by omega) _).trans (pr_bd (s := s) P t k z y)), e, (fun t k z y => (hi _ (by omega) _).trans (pr_ld (s := s) P t k z y)), ((hi _ (by omega) _).trans (pr_lks (s := s) P)), (fun k z => (hi _ (by omega) _).trans (pr_gl (s := s) P k z)), (fun k z => (hi _ (by omega) _).trans (pr_gc (s := s) P k z)), (fun k z => (hi _ (by omega) _).trans (pr_gh (s := s) P k z)), (fun k z => (hj _ (by omega) _).trans (pr_gt (s := s) P k z)), ((hi _ (by omega) _).trans (pr_seen (s := s) P)), ((hj _ (by omega) _).trans (pr_ab (s := s) P)), ((hj _ (by omega) _).trans (pr_bl (s := s) P))⟩
theorem c_R_changed {g : Gx} {h : Hp} {m d : Nat} {s : St} {Q : Option Value → Hp → Prop} (P : PR g h m s) (hQ : ∀ h1, hp_fr (inR m) h h1 → PR g h1 m (zeroP s) → Q none h1) : Ct g M_R_changed d 0 0 [.ref m] h Q := by
  have S := pr_S P
  refine ct_of ok_R_changed (by decide) (Nat.le_of_ble_eq_true rfl) [some (.ref m), none] rfl rfl ?_
  refine k_iconst (v := nI 0) rfl (by decide) ?_
  refine k_ist1 rfl rfl ?_
  suffices H : ∀ (q i : Nat) (h1 : Hp), i + q = 160 → hp_fr (fun a => a = m + 7) h h1 → hp_r h1 = hp_r h → (∀ j, j < i → hp_i h1 (m + 7) j = 0) → Om g M_R_changed d Q h1 2 [some (.ref m), some (.int (nI i))] [] from H 160 0 h rfl fr_rf rfl (fun j hj => absurd hj (Nat.not_lt_zero j))
  intro q
  induction q with
  | zero =>
    intro i h1 hi hF hr hz
    have S := sr_fr S hF (by rw [hr])
    refine k_iload_n rfl rfl ?_
    refine k_sipush (v := nI 160) rfl (by decide) ?_
    refine kn_ge rfl (by omega) (by omega) (fun c6 => ?_) (fun c6 => ?_)
    · refine k_vret rfl rfl (Nat.le_refl _) (Nat.le_refl _) ?_
      exact hQ h1 (fr_mono hF (fun a e => ⟨by omega, by omega⟩)) (PR_pl P hF hr (fun l k hl hk => hz _ (by omega)))
    · exact absurd c6 (by omega)
  | succ q ih =>
    intro i h1 hi hF hr hz
    have S := sr_fr S hF (by rw [hr])
    refine k_iload_n rfl rfl ?_
    refine k_sipush (v := nI 160) rfl (by decide) ?_
    refine kn_ge rfl (by omega) (by omega) (fun c6 => ?_) (fun c6 => ?_)
    · exact absurd c6 (by omega)
    · refine k_aload_n rfl rfl ?_
      refine k_getR rfl rfl (sr_o S) (sr_plan S) ?_
      refine k_iload_n rfl rfl ?_
      refine k_iconst (v := nI 0) rfl (by decide) ?_
      refine k_iS rfl (sr_a7 S) rfl (by omega) (by decide) ?_
      refine k_incN1 rfl rfl ?_
      refine k_goto rfl ?_
      refine ih (i + 1) _ (by omega) (fr_tr hF (fr_ui rfl)) hr (fun j hj => ?_)
      rw [i_ui]
      by_cases e : j = i
      · rw [if_pos ⟨rfl, e⟩]; rfl
      · rw [if_neg (fun z => e z.2)]; exact hz j (by omega)
def wtN (s : St) (k : Nat) : Nat := s_cn s 0 k + s_cn s 1 k + s_cn s 2 k + s_cn s 3 k
theorem wt_le {s : St} (I : Inv s) {k : Nat} (hk : k < s_told s) : wtN s k ≤ 4000 := by
  have h0 := v_cn I 0 k (by decide) hk
  have h1 := v_cn I 1 k (by decide) hk
  have h2 := v_cn I 2 k (by decide) hk
  have h3 := v_cn I 3 k (by decide) hk
  unfold wtN; omega
theorem c_R_weight {g : Gx} {h : Hp} {m d : Nat} {s : St} {Q : Option Value → Hp → Prop} (P : PR g h m s) (I : Inv s) {k : Nat} (hk : k < s_told s) (hQ : Q (some (.int (nI (wtN s k)))) h) : Ct g M_R_weight d 0 0 [.ref m, .int (nI k)] h Q := by
  have S := pr_S P
  have bT := v_told I
  have bL := v_lkr I
  refine ct_of ok_R_weight (by decide) (Nat.le_of_ble_eq_true rfl) [some (.ref m), some (.int (nI k))] rfl rfl ?_
  refine k_aload_n rfl rfl ?_
  refine k_getR rfl rfl (sr_o S) (sr_count S) ?_
  refine k_iload_n rfl rfl ?_
  refine k_iA rfl (sr_a3 S) (j := 40 * 0 + k) (by rw [Nat.mul_zero, Nat.zero_add]) (by omega) (by decide) (pr_cn P 0 k (by decide) hk) ?_
  refine k_aload_n rfl rfl ?_
  refine k_getR rfl rfl (sr_o S) (sr_count S) ?_
  refine k_bipush (v := nI 40) rfl (by decide) ?_
  refine k_iload_n rfl rfl ?_
  refine k_iaddN rfl ?_
  refine k_iA rfl (sr_a3 S) (j := 40 * 1 + k) rfl (by omega) (by decide) (pr_cn P 1 k (by decide) hk) ?_
  refine k_iaddN rfl ?_
  refine k_aload_n rfl rfl ?_
  refine k_getR rfl rfl (sr_o S) (sr_count S) ?_
  refine k_bipush (v := nI 80) rfl (by decide) ?_
  refine k_iload_n rfl rfl ?_
  refine k_iaddN rfl ?_
  refine k_iA rfl (sr_a3 S) (j := 40 * 2 + k) rfl (by omega) (by decide) (pr_cn P 2 k (by decide) hk) ?_
  refine k_iaddN rfl ?_
  refine k_aload_n rfl rfl ?_
  refine k_getR rfl rfl (sr_o S) (sr_count S) ?_
  refine k_bipush (v := nI 120) rfl (by decide) ?_
  refine k_iload_n rfl rfl ?_
  refine k_iaddN rfl ?_
  refine k_iA rfl (sr_a3 S) (j := 40 * 3 + k) rfl (by omega) (by decide) (pr_cn P 3 k (by decide) hk) ?_
  refine k_iaddN rfl ?_
  refine k_iret rfl rfl (Nat.le_refl _) (Nat.le_refl _) ?_
  exact hQ
