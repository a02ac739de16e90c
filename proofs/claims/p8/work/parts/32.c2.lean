def fb : Nat → Nat × Nat
  | 0 => (0, 1)
  | n + 1 => ((fb n).2, (fb n).1 + (fb n).2)
theorem fb_100 : 2 ^ 63 ≤ (fb 100).1 := by decide +kernel
theorem c_S_commonDivisor {g : Gx} {h : Hp} {d a b : Nat} {Q : Option Value → Hp → Prop} (ha : a < 2 ^ 63) (hb : b < 2 ^ 63) (ha0 : 0 < a) (hb0 : 0 < b) (hQ : Q (some (.long (lN (Nat.gcd a b)))) h) : Ct g M_S_commonDivisor d 0 0 [.long (lN a), .long (lN b)] h Q := by
  refine ct_of ok_S_commonDivisor (by decide) (Nat.le_of_ble_eq_true rfl) [some (.long (lN a)), none, some (.long (lN b)), none, none, none, none, none, none, none, none] rfl rfl ?_
  refine k_lload_n rfl rfl ?_
  refine k_lst4 rfl rfl ?_
  refine k_lload_n rfl rfl ?_
  refine k_lst6 rfl rfl ?_
  refine k_iconst (v := nI 0) rfl (by decide) ?_
  refine k_ist8 rfl rfl ?_
  have JE : ∀ (x i : Nat) (y : Int64) (z : Option Value), x = Nat.gcd a b → Om g M_S_commonDivisor d Q h 44 [some (.long (lN a)), none, some (.long (lN b)), none, some (.long (lN x)), none, some (.long y), none, some (.int (nI i)), z, none] [] := by
    intro x i y z ex
    have hg : 0 < Nat.gcd a b := Nat.gcd_pos_of_pos_left _ ha0
    have hg2 : Nat.gcd a b ≤ a := Nat.le_of_dvd ha0 (Nat.gcd_dvd_left a b)
    refine k_lload rfl rfl ?_
    refine k_lconst (v := lN 1) rfl (by decide) ?_
    refine klN_ge rfl rfl (by omega) (by decide) (fun c47 => ?_) (fun c47 => ?_)
    · refine k_lload rfl rfl ?_
      refine k_lret rfl rfl (Nat.le_refl _) (Nat.le_refl _) ?_
      rw [ex]; exact hQ
    · exact absurd c47 (by omega)
  suffices H : ∀ (q i x y : Nat) (z : Option Value), i + q = 100 → x < 2 ^ 63 → y < 2 ^ 63 → Nat.gcd x y = Nat.gcd a b → (0 < i → y < x ∧ (fb i).1 * x + (fb (i - 1)).1 * y ≤ b) → (i = 0 → x = a ∧ y = b) → Om g M_S_commonDivisor d Q h 9 [some (.long (lN a)), none, some (.long (lN b)), none, some (.long (lN x)), none, some (.long (lN y)), none, some (.int (nI i)), z, none] [] from H 100 0 a b none rfl ha hb rfl (fun z => absurd z (by omega)) (fun _ => ⟨rfl, rfl⟩)
  intro q
  induction q with
  | zero =>
    intro i x y z hi hx hy e hI h0
    have ei : i = 100 := by omega
    subst ei
    obtain ⟨q1, q2⟩ := hI (by omega)
    have q3 : (fb 100).1 * 1 ≤ (fb 100).1 * x := Nat.mul_le_mul_left _ (by omega)
    have q4 := fb_100
    exact absurd hb (by omega)
  | succ q ih =>
    intro i x y z hi hx hy e hI h0
    refine k_iload rfl rfl ?_
    refine k_bipush (v := nI 100) rfl (by decide) ?_
    refine kn_ge rfl (by omega) (by omega) (fun c13 => ?_) (fun c13 => ?_)
    · exact absurd c13 (by omega)
    · refine k_lload rfl rfl ?_
      refine k_lconst (v := lN 0) rfl (by decide) ?_
      refine klN_eq rfl rfl hy (by decide) (fun c19 => ?_) (fun c19 => ?_)
      · subst c19
        rw [Nat.gcd_zero_right] at e
        exact JE x _ _ _ e
      · have hp : 0 < y := by omega
        have hm : x % y < y := Nat.mod_lt _ hp
        have hdm := Nat.div_add_mod x y
        refine k_lload rfl rfl ?_
        refine k_lload rfl rfl ?_
        refine k_lremN rfl hx hp hy ?_
        refine k_lst9 rfl rfl ?_
        refine k_lload rfl rfl ?_
        refine k_lst4 rfl rfl ?_
        refine k_lload rfl rfl ?_
        refine k_lst6 rfl rfl ?_
        refine k_incN8 rfl rfl ?_
        refine k_goto rfl ?_
        refine ih (i + 1) y (x % y) _ (by omega) hy (by omega) (by rw [← e, Nat.gcd_comm x y, Nat.gcd_rec y x, Nat.gcd_comm]) (fun _ => ⟨hm, ?_⟩) (fun z => absurd z (by omega))
        show (fb i).2 * y + (fb i).1 * (x % y) ≤ b
        by_cases i0 : i = 0
        · subst i0
          obtain ⟨rfl, rfl⟩ := h0 rfl
          show 1 * y + 0 * _ ≤ y
          omega
        · obtain ⟨q1, q2⟩ := hI (by omega)
          obtain ⟨k, rfl⟩ : ∃ k, i = k + 1 := ⟨i - 1, by omega⟩
          have q3 : (fb (k + 1)).1 * x + (fb k).1 * y ≤ b := q2
          have e1 : 1 ≤ x / y := Nat.div_pos (by omega) hp
          have e2 : y * 1 ≤ y * (x / y) := Nat.mul_le_mul_left _ e1
          have e3 : y + x % y ≤ x := by omega
          have e4 : (fb (k + 1)).1 * (y + x % y) ≤ (fb (k + 1)).1 * x := Nat.mul_le_mul_left _ e3
          have e5 : (fb (k + 1)).2 = (fb k).1 + (fb (k + 1)).1 := rfl
          rw [e5, Nat.add_mul]
          rw [Nat.mul_add] at e4
          omega
theorem c_S_fraction {g : Gx} {h : Hp} {d a b : Nat} {p : Int32} {Q : Option Value → Hp → Prop} (ha : a < 2 ^ 63) (hb : b < 2 ^ 63) (hp : p = 0 ∨ p = 1) (hQ : Q (some (.long (ptI a b p))) h) : Ct g M_S_fraction (d + 1) 0 0 [.long (lN a), .long (lN b), .int p] h Q := by
  refine ct_of ok_S_fraction (by decide) (Nat.le_of_ble_eq_true rfl) [some (.long (lN a)), none, some (.long (lN b)), none, some (.int p), none, none] rfl rfl ?_
  have hpr : ¬ (p < 0 ∨ 1 < p) := by rcases hp with e | e <;> subst e <;> decide
  unfold ptI at hQ
  rw [if_neg hpr] at hQ
  refine k_lload_n rfl rfl ?_
  refine k_lconst (v := lN 0) rfl (by decide) ?_
  refine klN_le rfl rfl ha (by decide) (fun c2 => ?_) (fun c2 => ?_)
  · refine k_iload rfl rfl ?_
    refine k_if_ne rfl (fun c14 => ?_) (fun c14 => ?_)
    · refine k_lconst (v := lN 1) rfl (by decide) ?_
      refine k_lret rfl rfl (Nat.le_refl _) (Nat.le_refl _) ?_
      rw [if_pos (by omega)] at hQ; rw [hp.resolve_left c14] at hQ; exact hQ
    · refine k_lconst (v := lN 0) rfl (by decide) ?_
      refine k_goto rfl ?_
      refine k_lret rfl rfl (Nat.le_refl _) (Nat.le_refl _) ?_
      rw [if_pos (by omega), c14] at hQ; exact hQ
  · refine k_lload_n rfl rfl ?_
    refine k_lconst (v := lN 0) rfl (by decide) ?_
    refine klN_gt rfl rfl hb (by decide) (fun c8 => ?_) (fun c8 => ?_)
    · have hg : 0 < Nat.gcd a b := Nat.gcd_pos_of_pos_left _ (by omega)
      have hg2 : Nat.gcd a b ≤ a := Nat.le_of_dvd (by omega) (Nat.gcd_dvd_left a b)
      refine k_lload_n rfl rfl ?_
      refine k_lload_n rfl rfl ?_
      refine k_cS2 rfl cw_S_commonDivisor wd_192 (by decide) (Nat.le_of_ble_eq_true rfl) ?_
      refine c_S_commonDivisor ha hb (by omega) (by omega) ?_
      refine k_lst5 rfl rfl ?_
      refine k_iload rfl rfl ?_
      refine k_if_ne rfl (fun c32 => ?_) (fun c32 => ?_)
      · refine k_lload_n rfl rfl ?_
        refine k_lload rfl rfl ?_
        refine k_ldivN rfl (by omega) (by omega) (by omega) ?_
        refine k_lret rfl rfl (Nat.le_refl _) (Nat.le_refl _) ?_
        rw [if_neg (by omega), if_neg c32] at hQ; exact hQ
      · refine k_lload_n rfl rfl ?_
        refine k_goto rfl ?_
        refine k_lload rfl rfl ?_
        refine k_ldivN rfl (by omega) (by omega) (by omega) ?_
        refine k_lret rfl rfl (Nat.le_refl _) (Nat.le_refl _) ?_
        rw [if_neg (by omega), if_pos c32] at hQ; exact hQ
    · refine k_iload rfl rfl ?_
      refine k_if_ne rfl (fun c14 => ?_) (fun c14 => ?_)
      · refine k_lconst (v := lN 1) rfl (by decide) ?_
        refine k_lret rfl rfl (Nat.le_refl _) (Nat.le_refl _) ?_
        rw [if_pos (by omega)] at hQ; rw [hp.resolve_left c14] at hQ; exact hQ
      · refine k_lconst (v := lN 0) rfl (by decide) ?_
        refine k_goto rfl ?_
        refine k_lret rfl rfl (Nat.le_refl _) (Nat.le_refl _) ?_
        rw [if_pos (by omega), c14] at hQ; exact hQ
theorem c_S_rowWidth {g : Gx} {h : Hp} {d a : Nat} {Q : Option Value → Hp → Prop} (h0 : 0 < a) (ha : a ≤ 720) (hQ : Q (some (.int (nI (rwN a)))) h) : Ct g M_S_rowWidth d 0 0 [.int (nI a)] h Q := by
  refine ct_of ok_S_rowWidth (by decide) (Nat.le_of_ble_eq_true rfl) [some (.int (nI a)), none, none] rfl rfl ?_
  have e0 : rwN a = rwF a 26 2 1 := by
    show (if 1 * 1 ≤ a then rwF a 26 2 (if a % 1 = 0 then 1 else 1) else 1) = _
    rw [if_pos (by omega), if_pos (Nat.mod_one a)]
  refine k_iconst (v := nI 1) rfl (by decide) ?_
  refine k_ist1 rfl rfl ?_
  refine k_iconst (v := nI 2) rfl (by decide) ?_
  refine k_ist2 rfl rfl ?_
  suffices H : ∀ (q d0 w0 : Nat), d0 + q = 28 → 0 < d0 → w0 ≤ 28 → rwN a = rwF a q d0 w0 → Om g M_S_rowWidth d Q h 4 [some (.int (nI a)), some (.int (nI w0)), some (.int (nI d0))] [] from H 26 2 1 rfl (by decide) (by decide) e0
  intro q
  induction q with
  | zero =>
    intro d0 w0 h1 h2 h3 e
    obtain rfl : d0 = 28 := by omega
    refine k_iload_n rfl rfl ?_
    refine k_iload_n rfl rfl ?_
    refine k_imulN rfl ?_
    refine k_iload_n rfl rfl ?_
    refine kn_gt rfl (by omega) (by omega) (fun c8 => ?_) (fun c8 => ?_)
    · refine k_iload_n rfl rfl ?_
      refine k_iret rfl rfl (Nat.le_refl _) (Nat.le_refl _) ?_
      have e9 : rwN a = w0 := e
      rw [← e9]; exact hQ
    · exact absurd c8 (by omega)
  | succ q ih =>
    intro d0 w0 h1 h2 h3 e
    have hdd : d0 * d0 ≤ 28 * 28 := Nat.mul_le_mul (by omega) (by omega)
    simp only [rwF] at e
    refine k_iload_n rfl rfl ?_
    refine k_iload_n rfl rfl ?_
    refine k_imulN rfl ?_
    refine k_iload_n rfl rfl ?_
    refine kn_gt rfl (by omega) (by omega) (fun c8 => ?_) (fun c8 => ?_)
    · rw [if_neg (by omega)] at e
      refine k_iload_n rfl rfl ?_
      refine k_iret rfl rfl (Nat.le_refl _) (Nat.le_refl _) ?_
      rw [← e]; exact hQ
    · rw [if_pos c8] at e
      have hmd : a % d0 < d0 := Nat.mod_lt _ h2
      refine k_iload_n rfl rfl ?_
      refine k_iload_n rfl rfl ?_
      refine k_iremN rfl (by omega) (by omega) (by omega) ?_
      refine k_if_ne rfl (fun c14 => ?_) (fun c14 => ?_)
      · rw [if_neg (fun z => c14 (by rw [z]; rfl))] at e
        refine k_incN2 rfl rfl ?_
        refine k_goto rfl ?_
        exact ih _ _ (by omega) (by omega) (by omega) e
      · rw [if_pos ((nI_eq (by omega) (by decide)).mp c14)] at e
        refine k_iload_n rfl rfl ?_
        refine k_ist1 rfl rfl ?_
        refine k_incN2 rfl rfl ?_
        refine k_goto rfl ?_
        exact ih _ _ (by omega) (by omega) (by omega) e
theorem c_S_rowOf {g : Gx} {h : Hp} {d k w : Nat} {Q : Option Value → Hp → Prop} (hk : k < 2 ^ 31) (h0 : 0 < w) (hw : w < 2 ^ 31) (hQ : Q (some (.int (nI (k / w)))) h) : Ct g M_S_rowOf d 0 0 [.int (nI k), .int (nI w)] h Q := by
  refine ct_of ok_S_rowOf (by decide) (Nat.le_of_ble_eq_true rfl) [some (.int (nI k)), some (.int (nI w))] rfl rfl ?_
  refine k_iload_n rfl rfl ?_
  refine k_iconst (v := nI 1) rfl (by decide) ?_
  refine kn_ge rfl (by omega) (by omega) (fun c2 => ?_) (fun c2 => ?_)
  · refine k_iload_n rfl rfl ?_
    refine k_iload_n rfl rfl ?_
    refine k_idivN rfl (by omega) (by omega) (by omega) ?_
    refine k_iret rfl rfl (Nat.le_refl _) (Nat.le_refl _) ?_
    exact hQ
  · exact absurd c2 (by omega)
def prN (k w : Nat) : Nat := if k / w % 2 = 0 then k % w else w - 1 - k % w
theorem c_S_placeInRow {g : Gx} {h : Hp} {d k w : Nat} {Q : Option Value → Hp → Prop} (hk : k < 2 ^ 31) (h0 : 0 < w) (hw : w < 2 ^ 31) (hQ : Q (some (.int (nI (prN k w)))) h) : Ct g M_S_placeInRow (d + 1) 0 0 [.int (nI k), .int (nI w)] h Q := by
  refine ct_of ok_S_placeInRow (by decide) (Nat.le_of_ble_eq_true rfl) [some (.int (nI k)), some (.int (nI w)), none] rfl rfl ?_
  have hm := Nat.mod_lt k h0
  have hdl : k / w ≤ k := Nat.div_le_self _ _
  unfold prN at hQ
  refine k_iload_n rfl rfl ?_
  refine k_iconst (v := nI 1) rfl (by decide) ?_
  refine kn_ge rfl (by omega) (by omega) (fun c2 => ?_) (fun c2 => ?_)
  · refine k_iload_n rfl rfl ?_
    refine k_iload_n rfl rfl ?_
    refine k_iremN rfl (by omega) (by omega) (by omega) ?_
    refine k_ist2 rfl rfl ?_
    refine k_iload_n rfl rfl ?_
    refine k_iload_n rfl rfl ?_
    refine k_cS2 rfl cw_S_rowOf wd_319 (by decide) (Nat.le_of_ble_eq_true rfl) ?_
    refine c_S_rowOf hk h0 hw ?_
    refine k_iconst (v := nI 2) rfl (by decide) ?_
    refine k_iremN rfl (by omega) (by omega) (by omega) ?_
    refine k_if_ne rfl (fun c18 => ?_) (fun c18 => ?_)
    · rw [if_neg (fun z => c18 (by rw [z]; rfl))] at hQ
      refine k_iload_n rfl rfl ?_
      refine k_iconst (v := nI 1) rfl (by decide) ?_
      refine k_isubN rfl (by omega) ?_
      refine k_iload_n rfl rfl ?_
      refine k_isubN rfl (by omega) ?_
      refine k_iret rfl rfl (Nat.le_refl _) (Nat.le_refl _) ?_
      exact hQ
    · rw [if_pos ((nI_eq (by omega) (by decide)).mp c18)] at hQ
      refine k_iload_n rfl rfl ?_
      refine k_goto rfl ?_
      refine k_iret rfl rfl (Nat.le_refl _) (Nat.le_refl _) ?_
      exact hQ
  · exact absurd c2 (by omega)
theorem c_S_plannedHours {g : Gx} {h : Hp} {o d : Nat} {p : Nat → Nat} {s : St} {Q : Option Value → Hp → Prop} (P : PC g h o p s) (I : Inv s) (hQ : Q (some (.int (nI (szN s (s_lkr s))))) h) : Ct g M_S_plannedHours (d) 0 0 [.ref o] h Q := by
  have S := pc_S P
  have bT := v_told I
  have bL := v_lkr I
  refine ct_of ok_S_plannedHours (by decide) (Nat.le_of_ble_eq_true rfl) [some (.ref o), none, none] rfl rfl ?_
  refine k_iconst (v := nI 0) rfl (by decide) ?_
  refine k_ist1 rfl rfl ?_
  refine k_iconst (v := nI 0) rfl (by decide) ?_
  refine k_ist2 rfl rfl ?_
  suffices H : ∀ (q i : Nat), i + q = s_lkr s → Om g M_S_plannedHours (d) Q h 4 [some (.ref o), some (.int (nI (szN s i))), some (.int (nI i))] [] from H _ 0 (Nat.zero_add _)
  intro q
  induction q with
  | zero =>
    intro i hi
    have ei : i = s_lkr s := by omega
    refine k_iload_n rfl rfl ?_
    refine k_aload_n rfl rfl ?_
    refine k_gI rfl rfl (sc_o S) (pc_lkr P) ?_
    refine kn_ge rfl (by omega) (by omega) (fun c9 => ?_) (fun c9 => ?_)
    · refine k_iload_n rfl rfl ?_
      refine k_iret rfl rfl (Nat.le_refl _) (Nat.le_refl _) ?_
      rw [ei]; exact hQ
    · exact absurd c9 (by omega)
  | succ q ih =>
    intro i hi
    have hk : i < s_lkr s := by omega
    refine k_iload_n rfl rfl ?_
    refine k_aload_n rfl rfl ?_
    refine k_gI rfl rfl (sc_o S) (pc_lkr P) ?_
    refine kn_ge rfl (by omega) (by omega) (fun c9 => ?_) (fun c9 => ?_)
    · exact absurd c9 (by omega)
    · refine k_iload_n rfl rfl ?_
      refine k_aload_n rfl rfl ?_
      refine k_getR rfl rfl (sc_o S) (sc_lkrs S) ?_
      refine k_iload_n rfl rfl ?_
      refine k_aald (q := la o i) rfl (sc_a243 S) rfl (by decide) rfl (by omega) (by decide) (sc_l S i (by omega)).2.2.2 ?_
      refine k_gI rfl rfl (sc_l S i (by omega)).1 (pc_l P i (by omega)).2.1 ?_
      refine k_iaddN rfl ?_
      refine k_ist1 rfl rfl ?_
      refine k_incN2 rfl rfl ?_
      refine k_goto rfl ?_
      exact ih (i + 1) (by omega)
theorem wo_fd (s : St) (F : Nat → Nat → Nat) (k : Nat) : wo s F (k + 1) = wo s F k + fdN s (fun l => F l k) k := rfl
theorem c_S_plannedFinds {g : Gx} {h : Hp} {o d : Nat} {p : Nat → Nat} {s : St} {Q : Option Value → Hp → Prop} (P : PC g h o p s) (I : Inv s) (hQ : Q (some (.long (lN (wo s (s_pl s) (s_told s))))) h) : Ct g M_S_plannedFinds (d + 4) 0 0 [.ref o] h Q := by
  have S := pc_S P
  have bT := v_told I
  have bL := v_lkr I
  refine ct_of ok_S_plannedFinds (by decide) (Nat.le_of_ble_eq_true rfl) [some (.ref o), none, none, none] rfl rfl ?_
  refine k_lconst (v := lN 0) rfl (by decide) ?_
  refine k_lst1 rfl rfl ?_
  refine k_iconst (v := nI 0) rfl (by decide) ?_
  refine k_ist3 rfl rfl ?_
  suffices H : ∀ (q i : Nat), i + q = s_told s → Om g M_S_plannedFinds (d + 4) Q h 4 [some (.ref o), some (.long (lN (wo s (s_pl s) i))), none, some (.int (nI i))] [] from H _ 0 (Nat.zero_add _)
  intro q
  induction q with
  | zero =>
    intro i hi
    have ei : i = s_told s := by omega
    refine k_iload_n rfl rfl ?_
    refine k_aload_n rfl rfl ?_
    refine k_gI rfl rfl (sc_o S) (pc_told P) ?_
    refine kn_ge rfl (by omega) (by omega) (fun c9 => ?_) (fun c9 => ?_)
    · refine k_lload_n rfl rfl ?_
      refine k_lret rfl rfl (Nat.le_refl _) (Nat.le_refl _) ?_
      rw [ei]; exact hQ
    · exact absurd c9 (by omega)
  | succ q ih =>
    intro i hi
    have hk : i < s_told s := by omega
    have hpi := (pc_m P).1 i (by omega)
    refine k_iload_n rfl rfl ?_
    refine k_aload_n rfl rfl ?_
    refine k_gI rfl rfl (sc_o S) (pc_told P) ?_
    refine kn_ge rfl (by omega) (by omega) (fun c9 => ?_) (fun c9 => ?_)
    · exact absurd c9 (by omega)
    · refine k_lload_n rfl rfl ?_
      refine k_aload_n rfl rfl ?_
      refine k_getR rfl rfl (sc_o S) (sc_told S) ?_
      refine k_iload_n rfl rfl ?_
      refine k_aald (q := ca o (p i)) rfl (sc_a2 S) rfl (by decide) rfl (by omega) (by decide) (pc_r P i (by omega)) ?_
      refine k_aload_n rfl rfl ?_
      refine k_getR rfl rfl (sc_o S) (sc_told S) ?_
      refine k_iload_n rfl rfl ?_
      refine k_aald (q := ca o (p i)) rfl (sc_a2 S) rfl (by decide) rfl (by omega) (by decide) (pc_r P i (by omega)) ?_
      refine k_getR rfl rfl (sc_c S (p i) hpi).1 (sc_c S (p i) hpi).2.2.2.2.2.2.2.2.1 ?_
      refine k_aload_n rfl rfl ?_
      refine k_getR rfl rfl (sc_o S) (sc_rates S) ?_
      refine k_cVN2 rfl cw_C_finds (nsM (i := 6) rfl) (sc_c S (p i) hpi).1 rfl (by decide) (Nat.le_of_ble_eq_true rfl) ?_
      refine c_C_finds (f := fun l => s_pl s l i) I (cB_of P hk) (sc_c S (p i) hpi).2.2.1 (pc_t P i hk).2.2.2.2.1 (fun l hl => by have := v_pl I l i hl (by omega); omega) ?_
      refine k_laddN rfl ?_
      refine k_lst1 rfl rfl ?_
      refine k_incN3 rfl rfl ?_
      refine k_goto rfl ?_
      exact ih (i + 1) (by omega)
theorem i01 {q : Int32} (h : ¬ (q < 0 ∨ 1 < q)) : q = 0 ∨ q = 1 := by
  have h1 : ¬ q < 0 := fun z => h (Or.inl z)
  have h2 : ¬ 1 < q := fun z => h (Or.inr z)
  obtain ⟨k, hk, e⟩ := nI_of h1
  subst e
  have h3 : ¬ nI 1 < nI k := by rw [nI_one]; exact h2
  have h4 : k ≤ 1 := Nat.not_lt.mp (fun z => h3 (nI_lt z hk))
  have h5 : k = 0 ∨ k = 1 := by omega
  rcases h5 with e | e
  · subst e; exact Or.inl nI_0
  · subst e; exact Or.inr nI_one
theorem pt_m1 {a b : Nat} {q : Int32} (h : (decide (q = 0) || decide (q = 1)) = false) : ptI a b q = -1 := by
  unfold ptI
  rw [if_pos]
  refine Decidable.byContradiction (fun z => ?_)
  rcases i01 z with e | e <;> subst e <;> simp at h
theorem z01 {q : Int32} (h : (decide (q = 0) || decide (q = 1)) = true) : q = 0 ∨ q = 1 := by simpa using h
theorem c_S_found {g : Gx} {h : Hp} {o d : Nat} {p : Nat → Nat} {s : St} {Q : Option Value → Hp → Prop} (P : PC g h o p s) (I : Inv s) (q : Int32) (hQ : Q (some (.long (fdS s q))) h) : Ct g M_S_found (d + 5) 0 0 [.ref o, .int q] h Q := by
  have S := pc_S P
  have bT := v_told I
  have bL := v_lkr I
  refine ct_of ok_S_found (by decide) (Nat.le_of_ble_eq_true rfl) [some (.ref o), some (.int q), none, none, none] rfl rfl ?_
  have hws := wsN_le I (s_told s) (Nat.le_refl _)
  have hwo := wo_le I (s_pl s) (s_told s) (Nat.le_refl _)
  have hpt : (decide (q = 0) || decide (q = 1)) = false → ptI (wo s (s_pl s) (s_told s)) (wsN s (s_told s) * 268738560000) q = -1 := fun z => pt_m1 z
  unfold fdS at hQ
  refine k_iload_n rfl rfl ?_
  refine k_cS1 rfl cw_S_isZeroOrOne wd_185 (by decide) (Nat.le_of_ble_eq_true rfl) ?_
  refine c_S_isZeroOrOne q ?_
  refine kb_ne rfl (fun c4 => ?_) (fun c4 => ?_)
  · refine k_lconst (v := lN 0) rfl (by decide) ?_
    refine k_lst2 rfl rfl ?_
    refine k_iconst (v := nI 0) rfl (by decide) ?_
    refine k_ist4 rfl rfl ?_
    suffices H : ∀ (q9 i : Nat), i + q9 = s_told s → Om g M_S_found (d + 5) Q h 16 [some (.ref o), some (.int q), some (.long (lN (wsN s i))), none, some (.int (nI i))] [] from H _ 0 (Nat.zero_add _)
    intro q9
    induction q9 with
    | zero =>
      intro i hi
      have ei : i = s_told s := by omega
      subst ei
      refine k_iload rfl rfl ?_
      refine k_aload_n rfl rfl ?_
      refine k_gI rfl rfl (sc_o S) (pc_told P) ?_
      refine kn_ge rfl (by omega) (by omega) (fun c22 => ?_) (fun c22 => ?_)
      · refine k_aload_n rfl rfl ?_
        refine k_cV0 rfl cw_S_plannedFinds wd_269 (sc_o S) rfl (by decide) (Nat.le_of_ble_eq_true rfl) ?_
        refine c_S_plannedFinds P I ?_
        refine k_lload_n rfl rfl ?_
        refine k_ldc2 rfl wd_308 ?_
        rw [lN_W]
        refine k_lmulN rfl ?_
        refine k_iload_n rfl rfl ?_
        refine k_cS3 rfl cw_S_fraction wd_189 (by decide) (Nat.le_of_ble_eq_true rfl) ?_
        refine c_S_fraction (by omega) (by omega) (z01 c4) ?_
        refine k_lret rfl rfl (Nat.le_refl _) (Nat.le_refl _) ?_
        exact hQ
      · exact absurd c22 (by omega)
    | succ q9 ih =>
      intro i hi
      have hk : i < s_told s := by omega
      have hpi := (pc_m P).1 i (by omega)
      refine k_iload rfl rfl ?_
      refine k_aload_n rfl rfl ?_
      refine k_gI rfl rfl (sc_o S) (pc_told P) ?_
      refine kn_ge rfl (by omega) (by omega) (fun c22 => ?_) (fun c22 => ?_)
      · exact absurd c22 (by omega)
      · refine k_lload_n rfl rfl ?_
        refine k_aload_n rfl rfl ?_
        refine k_getR rfl rfl (sc_o S) (sc_told S) ?_
        refine k_iload rfl rfl ?_
        refine k_aald (q := ca o (p i)) rfl (sc_a2 S) rfl (by decide) rfl (by omega) (by decide) (pc_r P i (by omega)) ?_
        refine k_cVN0 rfl cw_C_weight (nsM (i := 9) rfl) (sc_c S (p i) hpi).1 rfl (by decide) (Nat.le_of_ble_eq_true rfl) ?_
        refine c_C_weight I (cB_of P hk) ?_
        refine k_laddN rfl ?_
        refine k_lst2 rfl rfl ?_
        refine k_incN4 rfl rfl ?_
        refine k_goto rfl ?_
        exact ih (i + 1) (by omega)
  · refine k_ldc2 rfl wd_188 ?_
    refine k_lret rfl rfl (Nat.le_refl _) (Nat.le_refl _) ?_
    rw [hpt c4] at hQ; exact hQ
theorem c_S_sums {g : Gx} {h : Hp} {o d : Nat} {p : Nat → Nat} {s : St} {Q : Option Value → Hp → Prop} (P : PC g h o p s) (I : Inv s) (hQ : Q (some (.int (bI (smS s)))) h) : Ct g M_S_sums (d + 5) 0 0 [.ref o] h Q := by
  have S := pc_S P
  have bT := v_told I
  have bL := v_lkr I
  refine ct_of ok_S_sums (by decide) (Nat.le_of_ble_eq_true rfl) [some (.ref o)] rfl rfl ?_
  have hal := lfN_le I (s_told s) (Nat.le_refl _)
  have hcb := v_cells I
  unfold smS at hQ
  cases hs : s_seen s with
  | some q =>
    have hq := v_seen I q hs
    rw [hs] at hQ
    refine k_aload_n rfl rfl ?_
    refine k_gI (x := nI q) rfl rfl (sc_o S) ((pc_seen P).trans (by rw [hs]; rfl)) ?_
    refine k_iconst (v := -1) rfl (by decide) ?_
    refine k_icmp_ne rfl (fun c5 => ?_) (fun c5 => ?_)
    · refine k_iconst (v := nI 1) rfl (by decide) ?_
      refine k_goto rfl ?_
      refine k_zret rfl rfl (by decide) (Nat.le_refl _) (Nat.le_refl _) ?_
      exact hQ
    · exact absurd c5 (nI_m1 (by omega))
  | none =>
    rw [hs] at hQ
    refine k_aload_n rfl rfl ?_
    refine k_gI (x := -1) rfl rfl (sc_o S) ((pc_seen P).trans (by rw [hs]; rfl)) ?_
    refine k_iconst (v := -1) rfl (by decide) ?_
    refine k_icmp_ne rfl (fun c5 => ?_) (fun c5 => ?_)
    · exact absurd rfl c5
    · refine k_aload_n rfl rfl ?_
      refine k_cV0 rfl cw_S_allRemains wd_295 (sc_o S) rfl (by decide) (Nat.le_of_ble_eq_true rfl) ?_
      refine c_S_allRemains P I ?_
      refine k_lconst (v := lN 0) rfl (by decide) ?_
      refine klN_le rfl rfl (by omega) (by omega) (fun c13 => ?_) (fun c13 => ?_)
      · refine k_iconst (v := nI 0) rfl (by decide) ?_
        refine k_zret rfl rfl (by decide) (Nat.le_refl _) (Nat.le_refl _) ?_
        rw [show decide (0 < lfN s (s_told s)) = false from decide_eq_false (by omega)] at hQ; exact hQ
      · refine k_iconst (v := nI 1) rfl (by decide) ?_
        refine k_goto rfl ?_
        refine k_zret rfl rfl (by decide) (Nat.le_refl _) (Nat.le_refl _) ?_
        rw [show decide (0 < lfN s (s_told s)) = true from decide_eq_true (by omega)] at hQ; exact hQ
theorem c_S_of {g : Gx} {h : Hp} {o d : Nat} {p : Nat → Nat} {s : St} {Q : Option Value → Hp → Prop} (P : PC g h o p s) (I : Inv s) (l c : Int32) (hQ : Q (some (.int (ofS s l c))) h) : Ct g M_S_of (d + 1) 0 0 [.ref o, .int l, .int c] h Q := by
  have S := pc_S P
  have bT := v_told I
  have bL := v_lkr I
  refine ct_of ok_S_of (by decide) (Nat.le_of_ble_eq_true rfl) [some (.ref o), some (.int l), some (.int c), none] rfl rfl ?_
  unfold ofS at hQ
  cases hp : plS s c with
  | none =>
    rw [hp] at hQ
    refine k_aload_n rfl rfl ?_
    refine k_iload_n rfl rfl ?_
    refine k_cV1 rfl cw_S_isLooker wd_212 (sc_o S) rfl (by decide) (Nat.le_of_ble_eq_true rfl) ?_
    refine c_S_isLooker P I l ?_
    refine kb_eq rfl (fun c5 => ?_) (fun c5 => ?_)
    · refine k_iconst (v := -1) rfl (by decide) ?_
      refine k_iret rfl rfl (Nat.le_refl _) (Nat.le_refl _) ?_
      rw [c5] at hQ; exact hQ
    · refine k_aload_n rfl rfl ?_
      refine k_iload_n rfl rfl ?_
      refine k_cV1 rfl cw_S_isCell wd_164 (sc_o S) rfl (by decide) (Nat.le_of_ble_eq_true rfl) ?_
      refine c_S_isCell P I c ?_
      refine kb_ne rfl (fun c13 => ?_) (fun c13 => ?_)
      · refine k_aload_n rfl rfl ?_
        refine k_iload_n rfl rfl ?_
        refine k_cV1 rfl cw_S_placeOf wd_173 (sc_o S) rfl (by decide) (Nat.le_of_ble_eq_true rfl) ?_
        refine c_S_placeOf P I c ?_
        rw [hp]
        refine k_ist3 rfl rfl ?_
        refine k_iload_n rfl rfl ?_
        refine k_iconst (v := -1) rfl (by decide) ?_
        refine k_icmp_ne rfl (fun c26 => ?_) (fun c26 => ?_)
        · exact absurd rfl c26
        · refine k_iconst (v := nI 0) rfl (by decide) ?_
          refine k_goto rfl ?_
          refine k_iret rfl rfl (Nat.le_refl _) (Nat.le_refl _) ?_
          rw [c5, c13] at hQ; exact hQ
      · refine k_iconst (v := -1) rfl (by decide) ?_
        refine k_iret rfl rfl (Nat.le_refl _) (Nat.le_refl _) ?_
        rw [c5, c13] at hQ; exact hQ
  | some i =>
    have hk := plS_lt hp
    have hpi := (pc_m P).1 i (by omega)
    rw [hp] at hQ
    refine k_aload_n rfl rfl ?_
    refine k_iload_n rfl rfl ?_
    refine k_cV1 rfl cw_S_isLooker wd_212 (sc_o S) rfl (by decide) (Nat.le_of_ble_eq_true rfl) ?_
    refine c_S_isLooker P I l ?_
    refine kb_eq rfl (fun c5 => ?_) (fun c5 => ?_)
    · refine k_iconst (v := -1) rfl (by decide) ?_
      refine k_iret rfl rfl (Nat.le_refl _) (Nat.le_refl _) ?_
      rw [c5] at hQ; exact hQ
    · obtain ⟨l0, hl0, el, ecl⟩ := isc_of (by omega) c5
      refine k_aload_n rfl rfl ?_
      refine k_iload_n rfl rfl ?_
      refine k_cV1 rfl cw_S_isCell wd_164 (sc_o S) rfl (by decide) (Nat.le_of_ble_eq_true rfl) ?_
      refine c_S_isCell P I c ?_
      refine kb_ne rfl (fun c13 => ?_) (fun c13 => ?_)
      · refine k_aload_n rfl rfl ?_
        refine k_iload_n rfl rfl ?_
        refine k_cV1 rfl cw_S_placeOf wd_173 (sc_o S) rfl (by decide) (Nat.le_of_ble_eq_true rfl) ?_
        refine c_S_placeOf P I c ?_
        rw [hp]
        refine k_ist3 rfl rfl ?_
        refine k_iload_n rfl rfl ?_
        refine k_iconst (v := -1) rfl (by decide) ?_
        refine k_icmp_ne rfl (fun c26 => ?_) (fun c26 => ?_)
        · refine k_aload_n rfl rfl ?_
          refine k_getR rfl rfl (sc_o S) (sc_told S) ?_
          refine k_iload_n rfl rfl ?_
          refine k_aald (q := ca o (p i)) rfl (sc_a2 S) rfl (by decide) rfl (by omega) (by decide) (pc_r P i (by omega)) ?_
          refine k_getR rfl rfl (sc_c S (p i) hpi).1 (sc_c S (p i) hpi).2.2.2.2.2.2.2.2.1 ?_
          refine k_iload_n rfl rfl ?_
          refine k_iA rfl (sc_c S (p i) hpi).2.2.1 (j := l0) el (by omega) (by decide) ((pc_t P i hk).2.2.2.2.1 l0 (by omega)) ?_
          refine k_iret rfl rfl (Nat.le_refl _) (Nat.le_refl _) ?_
          rw [c5, c13, ecl] at hQ; exact hQ
        · exact absurd c26 (nI_m1 (by omega))
      · refine k_iconst (v := -1) rfl (by decide) ?_
        refine k_iret rfl rfl (Nat.le_refl _) (Nat.le_refl _) ?_
        rw [c5, c13] at hQ; exact hQ
