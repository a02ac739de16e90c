theorem pl_isc {s : St} (I : Inv s) {c : Int32} {k : Nat} (h : plS s c = some k) : isc (nI (s_cells s)) c = true := by
  have h1 := (plc_some _ _ _ h).2.2
  have h2 := plS_lt h
  have h3 := v_num I k h2
  have h4 := v_cells I
  rw [← h1]
  exact isc_t (nI_pos (by omega)) (nI_lt h3 (by omega))
/-- rows of w: the greatest divisor whose square is not above a -/
def rwF (a : Nat) : Nat → Nat → Nat → Nat
  | 0, _, w => w
  | q + 1, d, w => if d * d ≤ a then rwF a q (d + 1) (if a % d = 0 then d else w) else w
theorem rwF_pos (a : Nat) : ∀ q d w, 0 < d → 0 < w → 0 < rwF a q d w
  | 0, _, _, _, h => h
  | q + 1, d, w, hd, h => by
    simp only [rwF]
    split
    · refine rwF_pos a q (d + 1) _ (by omega) ?_
      split <;> omega
    · exact h
theorem rwF_le (a B : Nat) : ∀ q d w, d + q ≤ B → w ≤ B → rwF a q d w ≤ B
  | 0, _, _, _, h => h
  | q + 1, d, w, hd, h => by
    simp only [rwF]
    split
    · refine rwF_le a B q (d + 1) _ (by omega) ?_
      split <;> omega
    · exact h
def rwN (a : Nat) : Nat := rwF a 27 1 1
theorem rwN_pos (a : Nat) : 0 < rwN a := rwF_pos a _ _ _ (by decide) (by decide)
theorem rwN_le (a : Nat) : rwN a ≤ 28 := rwF_le a 28 _ _ _ (by decide) (by decide)
def lnN (a k : Nat) (ax : Int32) : Nat := if ax = 1 then k / rwN a else if k / rwN a % 2 = 0 then k % rwN a else rwN a - 1 - k % rwN a
def lnS (s : St) (c k ax : Int32) : Int32 := match plS s c with
  | none => -1
  | some i => if ax < 0 ∨ 1 < ax ∨ k < 0 ∨ nI (s_ar s i) ≤ k then -1 else nI (lnN (s_ar s i) k.toNatClampNeg ax)
theorem c_R_line {g : Gx} {h : Hp} {m d : Nat} {s : St} {Q : Option Value → Hp → Prop} (P : PR g h m s) (I : Inv s) (c k ax : Int32) (hQ : Q (some (.int (lnS s c k ax))) h) : Ct g M_R_line (d + 1) 0 0 [.ref m, .int c, .int k, .int ax] h Q := by
  have S := pr_S P
  have bT := v_told I
  have bL := v_lkr I
  refine ct_of ok_R_line (by decide) (Nat.le_of_ble_eq_true rfl) [some (.ref m), some (.int c), some (.int k), some (.int ax), none, none, none] rfl rfl ?_
  unfold lnS at hQ
  cases hp : plS s c with
  | none =>
    rw [hp] at hQ
    refine k_aload_n rfl rfl ?_
    refine k_iload_n rfl rfl ?_
    refine k_cV1 rfl cw_R_isCell wd_450 (sr_o S) rfl (by decide) (Nat.le_of_ble_eq_true rfl) ?_
    refine c_R_isCell P I c ?_
    refine kb_eq rfl (fun c5 => ?_) (fun c5 => ?_)
    · refine k_iconst (v := -1) rfl (by decide) ?_
      refine k_iret rfl rfl (Nat.le_refl _) (Nat.le_refl _) ?_
      exact hQ
    · refine k_aload_n rfl rfl ?_
      refine k_iload_n rfl rfl ?_
      refine k_cV1 rfl cw_R_place wd_455 (sr_o S) rfl (by decide) (Nat.le_of_ble_eq_true rfl) ?_
      refine c_R_place P I c ?_
      rw [hp]
      refine k_iconst (v := -1) rfl (by decide) ?_
      refine k_icmp_eq rfl (fun c14 => ?_) (fun c14 => ?_)
      · refine k_iconst (v := -1) rfl (by decide) ?_
        refine k_iret rfl rfl (Nat.le_refl _) (Nat.le_refl _) ?_
        exact hQ
      · exact absurd rfl c14
  | some i =>
    have hi := plS_lt hp
    have ha := v_ar I i hi
    have hal := ar_le I hi
    rw [hp] at hQ
    simp only at hQ
    refine k_aload_n rfl rfl ?_
    refine k_iload_n rfl rfl ?_
    refine k_cV1 rfl cw_R_isCell wd_450 (sr_o S) rfl (by decide) (Nat.le_of_ble_eq_true rfl) ?_
    refine c_R_isCell P I c ?_
    refine kb_eq rfl (fun c5 => ?_) (fun c5 => ?_)
    · exact absurd (pl_isc I hp) (by rw [c5]; decide)
    · refine k_aload_n rfl rfl ?_
      refine k_iload_n rfl rfl ?_
      refine k_cV1 rfl cw_R_place wd_455 (sr_o S) rfl (by decide) (Nat.le_of_ble_eq_true rfl) ?_
      refine c_R_place P I c ?_
      rw [hp]
      refine k_iconst (v := -1) rfl (by decide) ?_
      refine k_icmp_eq rfl (fun c14 => ?_) (fun c14 => ?_)
      · exact absurd c14 (nI_m1 (by omega))
      · refine k_iload_n rfl rfl ?_
        refine k_if_lt rfl (fun c18 => ?_) (fun c18 => ?_)
        · refine k_iconst (v := -1) rfl (by decide) ?_
          refine k_iret rfl rfl (Nat.le_refl _) (Nat.le_refl _) ?_
          rw [if_pos (Or.inl c18)] at hQ; exact hQ
        · refine k_iload_n rfl rfl ?_
          refine k_iconst (v := 1) rfl (by decide) ?_
          refine k_icmp_gt rfl (fun c23 => ?_) (fun c23 => ?_)
          · refine k_iconst (v := -1) rfl (by decide) ?_
            refine k_iret rfl rfl (Nat.le_refl _) (Nat.le_refl _) ?_
            rw [if_pos (Or.inr (Or.inl c23))] at hQ; exact hQ
          · refine k_iload_n rfl rfl ?_
            refine k_if_lt rfl (fun c27 => ?_) (fun c27 => ?_)
            · refine k_iconst (v := -1) rfl (by decide) ?_
              refine k_iret rfl rfl (Nat.le_refl _) (Nat.le_refl _) ?_
              rw [if_pos (Or.inr (Or.inr (Or.inl c27)))] at hQ; exact hQ
            · refine k_iload_n rfl rfl ?_
              refine k_aload_n rfl rfl ?_
              refine k_getR rfl rfl (sr_o S) (sr_areas S) ?_
              refine k_aload_n rfl rfl ?_
              refine k_iload_n rfl rfl ?_
              refine k_cV1 rfl cw_R_place wd_455 (sr_o S) rfl (by decide) (Nat.le_of_ble_eq_true rfl) ?_
              refine c_R_place P I c ?_
              rw [hp]
              refine k_iA rfl (sr_a2 S) (j := i) rfl (by omega) (by decide) (pr_ar P i hi) ?_
              refine k_icmp_lt rfl (fun c41 => ?_) (fun c41 => ?_)
              · rw [if_neg (fun z => z.elim c18 (fun z => z.elim (fun z => absurd z (Int32.not_lt.mpr (Int32.not_lt.mp c23))) (fun z => z.elim c27 (fun z => absurd c41 (Int32.not_lt.mpr z)))))] at hQ
                obtain ⟨j, hj, ej, ecl⟩ := isc_of (n := s_ar s i) (by omega) (isc_t c27 c41)
                rw [ecl] at hQ
                clear ecl
                subst ej
                refine k_aload_n rfl rfl ?_
                refine k_getR rfl rfl (sr_o S) (sr_areas S) ?_
                refine k_aload_n rfl rfl ?_
                refine k_iload_n rfl rfl ?_
                refine k_cV1 rfl cw_R_place wd_455 (sr_o S) rfl (by decide) (Nat.le_of_ble_eq_true rfl) ?_
                refine c_R_place P I c ?_
                rw [hp]
                refine k_iA rfl (sr_a2 S) (j := i) rfl (by omega) (by decide) (pr_ar P i hi) ?_
                refine k_ist4 rfl rfl ?_
                refine k_iconst (v := nI 1) rfl (by decide) ?_
                refine k_ist5 rfl rfl ?_
                refine k_iconst (v := nI 1) rfl (by decide) ?_
                refine k_ist6 rfl rfl ?_
                suffices H : ∀ (q d0 w0 : Nat), d0 + q = 28 → 0 < d0 → 0 < w0 → w0 ≤ 28 → rwN (s_ar s i) = rwF (s_ar s i) q d0 w0 → Om g M_R_line (d + 1) Q h 64 [some (.ref m), some (.int c), some (.int (nI j)), some (.int ax), some (.int (nI (s_ar s i))), some (.int (nI w0)), some (.int (nI d0))] [] from H 27 1 1 rfl (by decide) (by decide) (by decide) rfl
                have J : ∀ (w0 d0 : Nat), rwN (s_ar s i) = w0 → Om g M_R_line (d + 1) Q h 97 [some (.ref m), some (.int c), some (.int (nI j)), some (.int ax), some (.int (nI (s_ar s i))), some (.int (nI w0)), some (.int (nI d0))] [] := by
                  intro w0 d0 ew
                  have hw1 := rwN_pos (s_ar s i)
                  have hw2 := rwN_le (s_ar s i)
                  rw [ew] at hw1 hw2
                  have hd1 : j / w0 ≤ j := Nat.div_le_self _ _
                  have hm1 : j % w0 < w0 := Nat.mod_lt _ hw1
                  unfold lnN at hQ
                  rw [ew] at hQ
                  refine k_iload_n rfl rfl ?_
                  refine k_iload rfl rfl ?_
                  refine k_idivN rfl (by omega) (by omega) (by omega) ?_
                  refine k_ist6 rfl rfl ?_
                  refine k_iload_n rfl rfl ?_
                  refine k_iconst (v := 1) rfl (by decide) ?_
                  refine k_icmp_ne rfl (fun c105 => ?_) (fun c105 => ?_)
                  · refine k_iload rfl rfl ?_
                    refine k_iconst (v := nI 2) rfl (by decide) ?_
                    refine k_iremN rfl (by omega) (by omega) (by omega) ?_
                    refine k_if_ne rfl (fun c117 => ?_) (fun c117 => ?_)
                    · have e2 : ¬ j / w0 % 2 = 0 := fun z => c117 (by rw [z]; rfl)
                      refine k_iload rfl rfl ?_
                      refine k_iconst (v := nI 1) rfl (by decide) ?_
                      refine k_isubN rfl (by omega) ?_
                      refine k_iload_n rfl rfl ?_
                      refine k_iload rfl rfl ?_
                      refine k_iremN rfl (by omega) (by omega) (by omega) ?_
                      refine k_isubN rfl (by omega) ?_
                      refine k_iret rfl rfl (Nat.le_refl _) (Nat.le_refl _) ?_
                      rw [if_neg c105, if_neg e2] at hQ; exact hQ
                    · have e2 : j / w0 % 2 = 0 := (nI_eq (by omega) (by decide)).mp c117
                      refine k_iload_n rfl rfl ?_
                      refine k_iload rfl rfl ?_
                      refine k_iremN rfl (by omega) (by omega) (by omega) ?_
                      refine k_goto rfl ?_
                      refine k_iret rfl rfl (Nat.le_refl _) (Nat.le_refl _) ?_
                      rw [if_neg c105, if_pos e2] at hQ; exact hQ
                  · refine k_iload rfl rfl ?_
                    refine k_goto rfl ?_
                    refine k_iret rfl rfl (Nat.le_refl _) (Nat.le_refl _) ?_
                    rw [if_pos c105] at hQ; exact hQ
                intro q
                induction q with
                | zero =>
                  intro d0 w0 h1 h2 h3 h4 e
                  obtain rfl : d0 = 28 := by omega
                  refine k_iload rfl rfl ?_
                  refine k_iload rfl rfl ?_
                  refine k_imulN rfl ?_
                  refine k_iload rfl rfl ?_
                  refine kn_gt rfl (by omega) (by omega) (fun c71 => ?_) (fun c71 => ?_)
                  · exact J _ _ e
                  · exact absurd c71 (by omega)
                | succ q ih =>
                  intro d0 w0 h1 h2 h3 h4 e
                  have hdd : d0 * d0 ≤ 28 * 28 := Nat.mul_le_mul (by omega) (by omega)
                  simp only [rwF] at e
                  refine k_iload rfl rfl ?_
                  refine k_iload rfl rfl ?_
                  refine k_imulN rfl ?_
                  refine k_iload rfl rfl ?_
                  refine kn_gt rfl (by omega) (by omega) (fun c71 => ?_) (fun c71 => ?_)
                  · rw [if_neg (by omega)] at e
                    exact J _ _ e
                  · rw [if_pos c71] at e
                    have hmd : s_ar s i % d0 < d0 := Nat.mod_lt _ h2
                    refine k_iload rfl rfl ?_
                    refine k_iload rfl rfl ?_
                    refine k_iremN rfl (by omega) (by omega) (by omega) ?_
                    refine k_if_ne rfl (fun c79 => ?_) (fun c79 => ?_)
                    · rw [if_neg (fun z => c79 (by rw [z]; rfl))] at e
                      refine k_iload rfl rfl ?_
                      refine k_ist5 rfl rfl ?_
                      refine k_incN6 rfl rfl ?_
                      refine k_goto rfl ?_
                      exact ih _ _ (by omega) (by omega) (by omega) (by omega) e
                    · rw [if_pos ((nI_eq (by omega) (by decide)).mp c79)] at e
                      refine k_iload rfl rfl ?_
                      refine k_goto rfl ?_
                      refine k_ist5 rfl rfl ?_
                      refine k_incN6 rfl rfl ?_
                      refine k_goto rfl ?_
                      exact ih _ _ (by omega) (by omega) (by omega) (by omega) e
              · refine k_iconst (v := -1) rfl (by decide) ?_
                refine k_iret rfl rfl (Nat.le_refl _) (Nat.le_refl _) ?_
                rw [if_pos (Or.inr (Or.inr (Or.inr (Int32.not_lt.mp c41))))] at hQ; exact hQ
theorem c_R_order {g : Gx} {h : Hp} {m d : Nat} {s : St} {Q : Option Value → Hp → Prop} (P : PR g h m s) (I : Inv s) (n : Int32) (hQ : Q (some (.int (orS s n))) h) : Ct g M_R_order (d + 2) 0 0 [.ref m, .int n] h Q := by
  have S := pr_S P
  have bT := v_told I
  have bL := v_lkr I
  refine ct_of ok_R_order (by decide) (Nat.le_of_ble_eq_true rfl) [some (.ref m), some (.int n), none, none, none] rfl rfl ?_
  unfold orS at hQ
  have hcb := v_cells I
  refine k_iload_n rfl rfl ?_
  refine k_if_lt rfl (fun c1 => ?_) (fun c1 => ?_)
  · refine k_iconst (v := -1) rfl (by decide) ?_
    refine k_iret rfl rfl (Nat.le_refl _) (Nat.le_refl _) ?_
    rw [isc_f1 c1] at hQ; exact hQ
  · refine k_iload_n rfl rfl ?_
    refine k_aload_n rfl rfl ?_
    refine k_gI rfl rfl (sr_o S) (pr_told P) ?_
    refine k_icmp_lt rfl (fun c9 => ?_) (fun c9 => ?_)
    · refine k_iconst (v := nI 0) rfl (by decide) ?_
      refine k_ist2 rfl rfl ?_
      rw [isc_t c1 c9] at hQ
      suffices H : ∀ (q k : Nat) (z3 z4 : Option Value), lc_1 z3 = true → k + q = s_told s → orF s n (s_told s) 0 = orF s n q k → Om g M_R_order (d + 2) Q h 16 [some (.ref m), some (.int n), some (.int (nI k)), z3, z4] [] from H _ 0 none none rfl (Nat.zero_add _) rfl
      intro q
      induction q with
      | zero =>
        intro k z3 z4 hz hk0 e
        simp only [cond_true, e, orF] at hQ
        refine k_iload_n rfl rfl ?_
        refine k_aload_n rfl rfl ?_
        refine k_gI rfl rfl (sr_o S) (pr_told P) ?_
        refine kn_ge rfl (by omega) (by omega) (fun c21 => ?_) (fun c21 => ?_)
        · refine k_iconst (v := -1) rfl (by decide) ?_
          refine k_iret rfl rfl (Nat.le_refl _) (Nat.le_refl _) ?_
          exact hQ
        · exact absurd c21 (by omega)
      | succ q ih =>
        intro k z3 z4 hz hk0 e
        have hkt : k < s_told s := by omega
        have hnb := v_num I k hkt
        have hrk := rk_le I hkt
        simp only [orF] at e
        refine k_iload_n rfl rfl ?_
        refine k_aload_n rfl rfl ?_
        refine k_gI rfl rfl (sr_o S) (pr_told P) ?_
        refine kn_ge rfl (by omega) (by omega) (fun c21 => ?_) (fun c21 => ?_)
        · exact absurd c21 (by omega)
        · refine k_iconst (v := nI 0) rfl (by decide) ?_
          refine k_ist3 rfl rfl ?_
          refine k_iconst (v := nI 0) rfl (by decide) ?_
          refine k_ist4 rfl rfl ?_
          suffices H2 : ∀ (q2 i : Nat), i + q2 = s_told s → Om g M_R_order (d + 2) Q h 29 [some (.ref m), some (.int n), some (.int (nI k)), some (.int (nI (bfO s k i))), some (.int (nI i))] [] from H2 _ 0 (Nat.zero_add _)
          intro q2
          induction q2 with
          | zero =>
            intro i hi
            have ei : i = s_told s := by omega
            subst ei
            refine k_iload rfl rfl ?_
            refine k_aload_n rfl rfl ?_
            refine k_gI rfl rfl (sr_o S) (pr_told P) ?_
            refine kn_ge rfl (by omega) (by omega) (fun c35 => ?_) (fun c35 => ?_)
            · refine k_iload_n rfl rfl ?_
              refine k_iload_n rfl rfl ?_
              refine k_icmp_ne rfl (fun c90 => ?_) (fun c90 => ?_)
              · refine k_incN2 rfl rfl ?_
                refine k_goto rfl ?_
                rw [if_neg c90] at e
                exact ih (k + 1) _ _ rfl (by omega) e
              · refine k_aload_n rfl rfl ?_
                refine k_getR rfl rfl (sr_o S) (sr_cell S) ?_
                refine k_iload_n rfl rfl ?_
                refine k_iA rfl (sr_a1 S) rfl (by omega) (by decide) (pr_num P k hkt) ?_
                refine k_iret rfl rfl (Nat.le_refl _) (Nat.le_refl _) ?_
                rw [if_pos c90] at e
                rw [e] at hQ
                exact hQ
            · exact absurd c35 (by omega)
          | succ q2 ih2 =>
            intro i hi
            have hik : i < s_told s := by omega
            have hri := rk_le I hik
            have hbo := bfO_le s k i
            refine k_iload rfl rfl ?_
            refine k_aload_n rfl rfl ?_
            refine k_gI rfl rfl (sr_o S) (pr_told P) ?_
            refine kn_ge rfl (by omega) (by omega) (fun c35 => ?_) (fun c35 => ?_)
            · exact absurd c35 (by omega)
            · refine k_iload_n rfl rfl ?_
              refine k_aload_n rfl rfl ?_
              refine k_iload rfl rfl ?_
              refine k_cV1 rfl cw_R_rank wd_595 (sr_o S) rfl (by decide) (Nat.le_of_ble_eq_true rfl) ?_
              refine c_R_rank P I hik ?_
              refine k_aload_n rfl rfl ?_
              refine k_iload_n rfl rfl ?_
              refine k_cV1 rfl cw_R_rank wd_595 (sr_o S) rfl (by decide) (Nat.le_of_ble_eq_true rfl) ?_
              refine c_R_rank P I hkt ?_
              refine klN_gt rfl rfl (by omega) (by omega) (fun c50 => ?_) (fun c50 => ?_)
              · refine k_iconst (v := nI 1) rfl (by decide) ?_
                refine k_goto rfl ?_
                refine k_iaddN rfl ?_
                refine k_ist3 rfl rfl ?_
                refine k_incN4 rfl rfl ?_
                refine k_goto rfl ?_
                have e9 := ih2 (i + 1) (by omega); simp only [bfO] at e9; rw [if_pos (Or.inl c50)] at e9; exact e9
              · refine k_aload_n rfl rfl ?_
                refine k_iload rfl rfl ?_
                refine k_cV1 rfl cw_R_rank wd_595 (sr_o S) rfl (by decide) (Nat.le_of_ble_eq_true rfl) ?_
                refine c_R_rank P I hik ?_
                refine k_aload_n rfl rfl ?_
                refine k_iload_n rfl rfl ?_
                refine k_cV1 rfl cw_R_rank wd_595 (sr_o S) rfl (by decide) (Nat.le_of_ble_eq_true rfl) ?_
                refine c_R_rank P I hkt ?_
                refine klN_ne rfl rfl (by omega) (by omega) (fun c65 => ?_) (fun c65 => ?_)
                · refine k_iconst (v := nI 0) rfl (by decide) ?_
                  refine k_iaddN rfl ?_
                  refine k_ist3 rfl rfl ?_
                  refine k_incN4 rfl rfl ?_
                  refine k_goto rfl ?_
                  have e9 := ih2 (i + 1) (by omega); simp only [bfO] at e9; rw [if_neg (by omega)] at e9; exact e9
                · refine k_iload rfl rfl ?_
                  refine k_iload_n rfl rfl ?_
                  refine kn_ge rfl (by omega) (by omega) (fun c72 => ?_) (fun c72 => ?_)
                  · refine k_iconst (v := nI 0) rfl (by decide) ?_
                    refine k_iaddN rfl ?_
                    refine k_ist3 rfl rfl ?_
                    refine k_incN4 rfl rfl ?_
                    refine k_goto rfl ?_
                    have e9 := ih2 (i + 1) (by omega); simp only [bfO] at e9; rw [if_neg (by omega)] at e9; exact e9
                  · refine k_iconst (v := nI 1) rfl (by decide) ?_
                    refine k_goto rfl ?_
                    refine k_iaddN rfl ?_
                    refine k_ist3 rfl rfl ?_
                    refine k_incN4 rfl rfl ?_
                    refine k_goto rfl ?_
                    have e9 := ih2 (i + 1) (by omega); simp only [bfO] at e9; rw [if_pos (by omega)] at e9; exact e9
    · refine k_iconst (v := -1) rfl (by decide) ?_
      refine k_iret rfl rfl (Nat.le_refl _) (Nat.le_refl _) ?_
      rw [isc_f2 c9] at hQ; exact hQ
