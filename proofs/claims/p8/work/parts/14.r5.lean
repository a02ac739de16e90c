def bfL (s : St) (k : Nat) : Nat → Nat
  | 0 => 0
  | i + 1 => bfL s k i + (if s_gt s i < s_gt s k ∨ (s_gt s i = s_gt s k ∧ i < k) then 1 else 0)
theorem bfL_le (s : St) (k : Nat) : ∀ i, bfL s k i ≤ i
  | 0 => Nat.le_refl _
  | i + 1 => by
    have := bfL_le s k i
    simp only [bfL]
    split <;> omega
def lgN (s : St) (k : Nat) (wh : Int32) : Int32 := if wh = 0 then nI (s_gl s k) else if wh = 1 then nI (s_gc s k) else if wh = 2 then nI (s_gh s k) else nI k
def lgF (s : St) (n wh : Int32) : Nat → Nat → Int32
  | 0, _ => -1
  | q + 1, i => if nI (bfL s i (s_lks s)) = n then lgN s i wh else lgF s n wh q (i + 1)
def lgS (s : St) (n wh : Int32) : Int32 := cond (isc (nI (s_lks s)) n && isc 4 wh) (lgF s n wh (s_lks s) 0) (-1)
theorem i34 {x : Int32} (h : x ≤ 3) : x < 4 := by
  rw [Int32.le_iff_toInt_le] at h
  rw [Int32.lt_iff_toInt_lt]
  exact Int.lt_add_one_of_le h
theorem i43 {x : Int32} (h : ¬ x ≤ 3) : ¬ x < 4 := by
  rw [Int32.le_iff_toInt_le] at h
  rw [Int32.lt_iff_toInt_lt]
  intro z
  exact h (Int.le_of_lt_add_one z)
theorem c_R_log {g : Gx} {h : Hp} {m d : Nat} {s : St} {Q : Option Value → Hp → Prop} (P : PR g h m s) (I : Inv s) (n wh : Int32) (hQ : Q (some (.int (lgS s n wh))) h) : Ct g M_R_log (d) 0 0 [.ref m, .int n, .int wh] h Q := by
  have S := pr_S P
  have bT := v_told I
  have bL := v_lkr I
  refine ct_of ok_R_log (by decide) (Nat.le_of_ble_eq_true rfl) [some (.ref m), some (.int n), some (.int wh), none, none, none] rfl rfl ?_
  have bK := v_lks I
  unfold lgS at hQ
  refine k_iload_n rfl rfl ?_
  refine k_if_lt rfl (fun c1 => ?_) (fun c1 => ?_)
  · refine k_iconst (v := -1) rfl (by decide) ?_
    refine k_iret rfl rfl (Nat.le_refl _) (Nat.le_refl _) ?_
    rw [isc_f1 c1] at hQ; exact hQ
  · refine k_iload_n rfl rfl ?_
    refine k_aload_n rfl rfl ?_
    refine k_gI rfl rfl (sr_o S) (pr_lks P) ?_
    refine k_icmp_ge rfl (fun c9 => ?_) (fun c9 => ?_)
    · refine k_iconst (v := -1) rfl (by decide) ?_
      refine k_iret rfl rfl (Nat.le_refl _) (Nat.le_refl _) ?_
      rw [isc_f2 (Int32.not_lt.mpr c9)] at hQ; exact hQ
    · refine k_iload_n rfl rfl ?_
      refine k_if_lt rfl (fun c13 => ?_) (fun c13 => ?_)
      · refine k_iconst (v := -1) rfl (by decide) ?_
        refine k_iret rfl rfl (Nat.le_refl _) (Nat.le_refl _) ?_
        rw [isc_f1 (n := 4) c13, Bool.and_false] at hQ; exact hQ
      · refine k_iload_n rfl rfl ?_
        refine k_iconst (v := 3) rfl (by decide) ?_
        refine k_icmp_le rfl (fun c18 => ?_) (fun c18 => ?_)
        · refine k_iconst (v := nI 0) rfl (by decide) ?_
          refine k_ist3 rfl rfl ?_
          rw [isc_t c1 (Int32.not_le.mp c9), isc_t c13 (i34 c18)] at hQ
          suffices H : ∀ (q k : Nat) (z4 z5 : Option Value), lc_1 z4 = true → k + q = s_lks s → lgF s n wh (s_lks s) 0 = lgF s n wh q k → Om g M_R_log d Q h 25 [some (.ref m), some (.int n), some (.int wh), some (.int (nI k)), z4, z5] [] from H _ 0 none none rfl (Nat.zero_add _) rfl
          intro q
          induction q with
          | zero =>
            intro k z4 z5 hz hk0 e
            simp only [Bool.and_self, cond_true, e, lgF] at hQ
            refine k_iload_n rfl rfl ?_
            refine k_aload_n rfl rfl ?_
            refine k_gI rfl rfl (sr_o S) (pr_lks P) ?_
            refine kn_ge rfl (by omega) (by omega) (fun c30 => ?_) (fun c30 => ?_)
            · refine k_iconst (v := -1) rfl (by decide) ?_
              refine k_iret rfl rfl (Nat.le_refl _) (Nat.le_refl _) ?_
              exact hQ
            · exact absurd c30 (by omega)
          | succ q ih =>
            intro k z4 z5 hz hk0 e
            have hkt : k < s_lks s := by omega
            have hgk := (v_log I k hkt).2.2.2.2
            simp only [Bool.and_self, cond_true] at hQ
            simp only [lgF] at e
            refine k_iload_n rfl rfl ?_
            refine k_aload_n rfl rfl ?_
            refine k_gI rfl rfl (sr_o S) (pr_lks P) ?_
            refine kn_ge rfl (by omega) (by omega) (fun c30 => ?_) (fun c30 => ?_)
            · exact absurd c30 (by omega)
            · refine k_iconst (v := nI 0) rfl (by decide) ?_
              refine k_ist4 rfl rfl ?_
              refine k_iconst (v := nI 0) rfl (by decide) ?_
              refine k_ist5 rfl rfl ?_
              suffices H2 : ∀ (q2 i : Nat), i + q2 = s_lks s → Om g M_R_log d Q h 39 [some (.ref m), some (.int n), some (.int wh), some (.int (nI k)), some (.int (nI (bfL s k i))), some (.int (nI i))] [] from H2 _ 0 (Nat.zero_add _)
              intro q2
              induction q2 with
              | zero =>
                intro i hi
                have ei : i = s_lks s := by omega
                subst ei
                refine k_iload rfl rfl ?_
                refine k_aload_n rfl rfl ?_
                refine k_gI rfl rfl (sr_o S) (pr_lks P) ?_
                refine kn_ge rfl (by omega) (by omega) (fun c45 => ?_) (fun c45 => ?_)
                · refine k_iload rfl rfl ?_
                  refine k_iload_n rfl rfl ?_
                  refine k_icmp_ne rfl (fun c107 => ?_) (fun c107 => ?_)
                  · refine k_incN3 rfl rfl ?_
                    refine k_goto rfl ?_
                    rw [if_neg c107] at e
                    exact ih (k + 1) _ _ rfl (by omega) e
                  · refine k_iload_n rfl rfl ?_
                    refine k_if_ne rfl (fun c111 => ?_) (fun c111 => ?_)
                    · refine k_iload_n rfl rfl ?_
                      refine k_iconst (v := 1) rfl (by decide) ?_
                      refine k_icmp_ne rfl (fun c125 => ?_) (fun c125 => ?_)
                      · refine k_iload_n rfl rfl ?_
                        refine k_iconst (v := 2) rfl (by decide) ?_
                        refine k_icmp_ne rfl (fun c139 => ?_) (fun c139 => ?_)
                        · refine k_iload_n rfl rfl ?_
                          refine k_iret rfl rfl (Nat.le_refl _) (Nat.le_refl _) ?_
                          rw [if_pos c107] at e; rw [e] at hQ; unfold lgN at hQ; rw [if_neg c111, if_neg c125, if_neg c139] at hQ; exact hQ
                        · refine k_aload_n rfl rfl ?_
                          refine k_getR rfl rfl (sr_o S) (sr_lookHours S) ?_
                          refine k_iload_n rfl rfl ?_
                          refine k_iA rfl (sr_a12 S) rfl (by omega) (by decide) (pr_gh P k hkt) ?_
                          refine k_goto rfl ?_
                          refine k_iret rfl rfl (Nat.le_refl _) (Nat.le_refl _) ?_
                          rw [if_pos c107] at e; rw [e] at hQ; unfold lgN at hQ; rw [if_neg c111, if_neg c125, if_pos c139] at hQ; exact hQ
                      · refine k_aload_n rfl rfl ?_
                        refine k_getR rfl rfl (sr_o S) (sr_lookCell S) ?_
                        refine k_iload_n rfl rfl ?_
                        refine k_iA rfl (sr_a11 S) rfl (by omega) (by decide) (pr_gc P k hkt) ?_
                        refine k_goto rfl ?_
                        refine k_iret rfl rfl (Nat.le_refl _) (Nat.le_refl _) ?_
                        rw [if_pos c107] at e; rw [e] at hQ; unfold lgN at hQ; rw [if_neg c111, if_pos c125] at hQ; exact hQ
                    · refine k_aload_n rfl rfl ?_
                      refine k_getR rfl rfl (sr_o S) (sr_lookLooker S) ?_
                      refine k_iload_n rfl rfl ?_
                      refine k_iA rfl (sr_a10 S) rfl (by omega) (by decide) (pr_gl P k hkt) ?_
                      refine k_goto rfl ?_
                      refine k_iret rfl rfl (Nat.le_refl _) (Nat.le_refl _) ?_
                      rw [if_pos c107] at e; rw [e] at hQ; unfold lgN at hQ; rw [if_pos c111] at hQ; exact hQ
                · exact absurd c45 (by omega)
              | succ q2 ih2 =>
                intro i hi
                have hik : i < s_lks s := by omega
                have hgi := (v_log I i hik).2.2.2.2
                have hbo := bfL_le s k i
                refine k_iload rfl rfl ?_
                refine k_aload_n rfl rfl ?_
                refine k_gI rfl rfl (sr_o S) (pr_lks P) ?_
                refine kn_ge rfl (by omega) (by omega) (fun c45 => ?_) (fun c45 => ?_)
                · exact absurd c45 (by omega)
                · refine k_iload rfl rfl ?_
                  refine k_aload_n rfl rfl ?_
                  refine k_getR rfl rfl (sr_o S) (sr_lookTold S) ?_
                  refine k_iload rfl rfl ?_
                  refine k_lA rfl (sr_a13 S) rfl (by omega) (by decide) (pr_gt P i hik) ?_
                  refine k_aload_n rfl rfl ?_
                  refine k_getR rfl rfl (sr_o S) (sr_lookTold S) ?_
                  refine k_iload_n rfl rfl ?_
                  refine k_lA rfl (sr_a13 S) rfl (by omega) (by decide) (pr_gt P k hkt) ?_
                  refine klN_lt rfl rfl (by omega) (by omega) (fun c63 => ?_) (fun c63 => ?_)
                  · refine k_iconst (v := nI 1) rfl (by decide) ?_
                    refine k_goto rfl ?_
                    refine k_iaddN rfl ?_
                    refine k_ist4 rfl rfl ?_
                    refine k_incN5 rfl rfl ?_
                    refine k_goto rfl ?_
                    have e9 := ih2 (i + 1) (by omega)
                    simp only [bfL] at e9
                    rw [if_pos (Or.inl c63)] at e9
                    exact e9
                  · refine k_aload_n rfl rfl ?_
                    refine k_getR rfl rfl (sr_o S) (sr_lookTold S) ?_
                    refine k_iload rfl rfl ?_
                    refine k_lA rfl (sr_a13 S) rfl (by omega) (by decide) (pr_gt P i hik) ?_
                    refine k_aload_n rfl rfl ?_
                    refine k_getR rfl rfl (sr_o S) (sr_lookTold S) ?_
                    refine k_iload_n rfl rfl ?_
                    refine k_lA rfl (sr_a13 S) rfl (by omega) (by decide) (pr_gt P k hkt) ?_
                    refine klN_ne rfl rfl (by omega) (by omega) (fun c80 => ?_) (fun c80 => ?_)
                    · refine k_iconst (v := nI 0) rfl (by decide) ?_
                      refine k_iaddN rfl ?_
                      refine k_ist4 rfl rfl ?_
                      refine k_incN5 rfl rfl ?_
                      refine k_goto rfl ?_
                      have e9 := ih2 (i + 1) (by omega)
                      simp only [bfL] at e9
                      rw [if_neg (by omega)] at e9
                      exact e9
                    · refine k_iload rfl rfl ?_
                      refine k_iload_n rfl rfl ?_
                      refine kn_ge rfl (by omega) (by omega) (fun c87 => ?_) (fun c87 => ?_)
                      · refine k_iconst (v := nI 0) rfl (by decide) ?_
                        refine k_iaddN rfl ?_
                        refine k_ist4 rfl rfl ?_
                        refine k_incN5 rfl rfl ?_
                        refine k_goto rfl ?_
                        have e9 := ih2 (i + 1) (by omega)
                        simp only [bfL] at e9
                        rw [if_neg (by omega)] at e9
                        exact e9
                      · refine k_iconst (v := nI 1) rfl (by decide) ?_
                        refine k_goto rfl ?_
                        refine k_iaddN rfl ?_
                        refine k_ist4 rfl rfl ?_
                        refine k_incN5 rfl rfl ?_
                        refine k_goto rfl ?_
                        have e9 := ih2 (i + 1) (by omega)
                        simp only [bfL] at e9
                        rw [if_pos (by omega)] at e9
                        exact e9
        · refine k_iconst (v := -1) rfl (by decide) ?_
          refine k_iret rfl rfl (Nat.le_refl _) (Nat.le_refl _) ?_
          rw [isc_f2 (i43 c18), Bool.and_false] at hQ; exact hQ
