def WN : Nat := 268738560000
/-- what one looker misses, in 720ths -/
def ms1 (s : St) (f : Nat → Nat) (k l : Nat) : Nat := 720 / s_ar s k * (s_ar s k - min (s_ar s k) (if l < s_lkr s then f l * s_rt s l else 0))
def msP (s : St) (f : Nat → Nat) (k : Nat) : Nat → Nat
  | 0 => 1
  | l + 1 => msP s f k l * ms1 s f k l
def msN (s : St) (f : Nat → Nat) (k : Nat) : Nat := msP s f k 4
theorem ms1_le (s : St) (f : Nat → Nat) (k l : Nat) : ms1 s f k l ≤ 720 := by
  unfold ms1
  refine Nat.le_trans (Nat.mul_le_mul_left _ (Nat.sub_le _ _)) ?_
  exact Nat.div_mul_le_self 720 (s_ar s k)
theorem msP_le (s : St) (f : Nat → Nat) (k : Nat) : ∀ l, msP s f k l ≤ 720 ^ l
  | 0 => Nat.le_refl _
  | l + 1 => by
    rw [Nat.pow_succ]
    exact Nat.mul_le_mul (msP_le s f k l) (ms1_le s f k l)
theorem msN_le (s : St) (f : Nat → Nat) (k : Nat) : msN s f k ≤ 268738560000 := msP_le s f k 4
def wo (s : St) (F : Nat → Nat → Nat) : Nat → Nat
  | 0 => 0
  | k + 1 => wo s F k + wtN s k * (268738560000 - msN s (fun l => F l k) k)
theorem wo_le {s : St} (I : Inv s) (F : Nat → Nat → Nat) : ∀ k, k ≤ s_told s → wo s F k ≤ k * (4000 * 268738560000)
  | 0, _ => by simp [wo]
  | k + 1, h => by
    have h1 := wo_le I F k (by omega)
    have h2 := Nat.mul_le_mul (wt_le I (k := k) (by omega)) (Nat.sub_le 268738560000 (msN s (fun l => F l k) k))
    simp only [wo]
    omega
def usN (s : St) (l : Nat) : Nat → Nat
  | 0 => 0
  | q + 1 => usN s l q + (if s_bd s l q then 0 else 1)
theorem usN_le (s : St) (l : Nat) : ∀ q, usN s l q ≤ q
  | 0 => Nat.le_refl _
  | q + 1 => by
    have := usN_le s l q
    simp only [usN]
    split <;> omega
def us (s : St) (l : Nat) : Nat := usN s l (s_hr s l)
def gv (F : Nat → Nat → Nat) (l : Nat) : Nat → Nat
  | 0 => 0
  | k + 1 => gv F l k + F l k
theorem gv_le {F : Nat → Nat → Nat} {l B : Nat} : ∀ n, (∀ k, k < n → F l k ≤ B) → gv F l n ≤ n * B
  | 0, _ => by simp [gv]
  | n + 1, h => by
    have h1 := gv_le n (fun k hk => h k (by omega))
    have h2 := h n (by omega)
    simp only [gv]
    rw [Nat.succ_mul]; omega
def szN (s : St) : Nat → Nat
  | 0 => 0
  | l + 1 => szN s l + gv (s_pl s) l (s_told s)
def alN (s : St) : Nat → Nat
  | 0 => 0
  | k + 1 => alN s k + s_cn s 0 k
theorem alN_le {s : St} (I : Inv s) : ∀ k, k ≤ s_told s → alN s k ≤ k * 1000
  | 0, _ => by simp [alN]
  | k + 1, h => by
    have h1 := alN_le I k (by omega)
    have h2 := v_cn I 0 k (by decide) (by omega)
    simp only [alN]; omega
def lfN (s : St) : Nat → Nat
  | 0 => 0
  | k + 1 => lfN s k + s_cn s 0 k * msN s (fun l => s_ld s l k) k
theorem lf1_le {s : St} (I : Inv s) {k : Nat} (h : k < s_told s) : s_cn s 0 k * msN s (fun l => s_ld s l k) k ≤ 1000 * 268738560000 := Nat.mul_le_mul (v_cn I 0 k (by decide) h) (msN_le _ _ _)
theorem lfN_le {s : St} (I : Inv s) : ∀ k, k ≤ s_told s → lfN s k ≤ k * (1000 * 268738560000)
  | 0, _ => by simp [lfN]
  | k + 1, h => by
    have h1 := lfN_le I k (by omega)
    have h2 := lf1_le I (k := k) (by omega)
    simp only [lfN]; omega
theorem lN_W : (268738560000 : Int64) = lN 268738560000 := by decide +kernel
theorem c0_ix (k : Nat) : nI k = nI (40 * 0 + k) := by rw [Nat.mul_zero, Nat.zero_add]
theorem c_R_missed {g : Gx} {h : Hp} {m d : Nat} {s : St} {Q : Option Value → Hp → Prop} (P : PR g h m s) (I : Inv s) {ra k : Nat} {f : Nat → Nat} (hA : isA g h ra 0 160) (hk : k < s_told s) (hrow : ∀ l, l < s_lkr s → hp_i h ra (40 * l + k) = nI (f l)) (hfb : ∀ l, l < s_lkr s → f l ≤ 20000) (hQ : Q (some (.long (lN (msN s f k)))) h) : Ct g M_R_missed (d) 0 0 [.ref m, .ref ra, .int (nI k)] h Q := by
  have S := pr_S P
  have bT := v_told I
  have bL := v_lkr I
  refine ct_of ok_R_missed (by decide) (Nat.le_of_ble_eq_true rfl) [some (.ref m), some (.ref ra), some (.int (nI k)), none, none, none, none, none] rfl rfl ?_
  have ha := v_ar I k hk
  have hal := ar_le I hk
  refine k_lconst (v := lN 1) rfl (by decide) ?_
  refine k_lst3 rfl rfl ?_
  refine k_iconst (v := nI 0) rfl (by decide) ?_
  refine k_ist5 rfl rfl ?_
  suffices H : ∀ (q l : Nat) (z : Option Value), l + q = 4 → Om g M_R_missed d Q h 5 [some (.ref m), some (.ref ra), some (.int (nI k)), some (.long (lN (msP s f k l))), none, some (.int (nI l)), z, none] [] from H 4 0 none rfl
  intro q
  induction q with
  | zero =>
    intro l z hl
    obtain rfl : l = 4 := by omega
    refine k_iload rfl rfl ?_
    refine k_iconst (v := nI 4) rfl (by decide) ?_
    refine kn_ge rfl (by omega) (by omega) (fun c8 => ?_) (fun c8 => ?_)
    · refine k_lload_n rfl rfl ?_
      refine k_lret rfl rfl (Nat.le_refl _) (Nat.le_refl _) ?_
      exact hQ
    · exact absurd c8 (by omega)
  | succ q ih =>
    intro l z hl
    have J2 : ∀ v, v = min (s_ar s k) (if l < s_lkr s then f l * s_rt s l else 0) → Om g M_R_missed d Q h 72 [some (.ref m), some (.ref ra), some (.int (nI k)), some (.long (lN (msP s f k l))), none, some (.int (nI l)), some (.long (lN v)), none] [] := by
      intro v hv
      have hvle : v ≤ s_ar s k := by rw [hv]; exact Nat.min_le_left _ _
      have hdl : 720 / s_ar s k ≤ 720 := Nat.div_le_self _ _
      refine k_lload_n rfl rfl ?_
      refine k_sipush (v := nI 720) rfl (by decide) ?_
      refine k_aload_n rfl rfl ?_
      refine k_getR rfl rfl (sr_o S) (sr_areas S) ?_
      refine k_iload_n rfl rfl ?_
      refine k_iA rfl (sr_a2 S) rfl (by omega) (by decide) (pr_ar P k hk) ?_
      refine k_idivN rfl (by omega) (by omega) (by omega) ?_
      refine k_i2lN rfl (by omega) ?_
      refine k_aload_n rfl rfl ?_
      refine k_getR rfl rfl (sr_o S) (sr_areas S) ?_
      refine k_iload_n rfl rfl ?_
      refine k_iA rfl (sr_a2 S) rfl (by omega) (by decide) (pr_ar P k hk) ?_
      refine k_i2lN rfl (by omega) ?_
      refine k_lload rfl rfl ?_
      refine k_lsubN rfl (by omega) ?_
      refine k_lmulN rfl ?_
      refine k_lmulN rfl ?_
      refine k_lst3 rfl rfl ?_
      refine k_incN5 rfl rfl ?_
      refine k_goto rfl ?_
      rw [hv]; exact ih (l + 1) _ (by omega)
    have J1 : ∀ x, x = (if l < s_lkr s then f l * s_rt s l else 0) → x ≤ 20000000 → Om g M_R_missed d Q h 43 [some (.ref m), some (.ref ra), some (.int (nI k)), some (.long (lN (msP s f k l))), none, some (.int (nI l)), z, none] [.long (lN x)] := by
      intro x hx hxb
      refine k_lst6 rfl rfl ?_
      refine k_lload rfl rfl ?_
      refine k_aload_n rfl rfl ?_
      refine k_getR rfl rfl (sr_o S) (sr_areas S) ?_
      refine k_iload_n rfl rfl ?_
      refine k_iA rfl (sr_a2 S) rfl (by omega) (by decide) (pr_ar P k hk) ?_
      refine k_i2lN rfl (by omega) ?_
      refine klN_le rfl rfl (by omega) (by omega) (fun c54 => ?_) (fun c54 => ?_)
      · refine k_lload rfl rfl ?_
        refine k_lst6 rfl rfl ?_
        exact J2 _ (by rw [← hx]; omega)
      · refine k_aload_n rfl rfl ?_
        refine k_getR rfl rfl (sr_o S) (sr_areas S) ?_
        refine k_iload_n rfl rfl ?_
        refine k_iA rfl (sr_a2 S) rfl (by omega) (by decide) (pr_ar P k hk) ?_
        refine k_i2lN rfl (by omega) ?_
        refine k_goto rfl ?_
        refine k_lst6 rfl rfl ?_
        exact J2 _ (by rw [← hx]; omega)
    refine k_iload rfl rfl ?_
    refine k_iconst (v := nI 4) rfl (by decide) ?_
    refine kn_ge rfl (by omega) (by omega) (fun c8 => ?_) (fun c8 => ?_)
    · exact absurd c8 (by omega)
    · refine k_iload rfl rfl ?_
      refine k_aload_n rfl rfl ?_
      refine k_gI rfl rfl (sr_o S) (pr_lkr P) ?_
      refine kn_ge rfl (by omega) (by omega) (fun c17 => ?_) (fun c17 => ?_)
      · refine k_lconst (v := lN 0) rfl (by decide) ?_
        exact J1 0 (by rw [if_neg (by omega)]) (by omega)
      · have b1 := hfb l c17
        have b2 := (v_rt I l c17).2
        have b3 : f l * s_rt s l ≤ 20000 * 1000 := Nat.mul_le_mul b1 b2
        refine k_aload_n rfl rfl ?_
        refine k_bipush (v := nI 40) rfl (by decide) ?_
        refine k_iload rfl rfl ?_
        refine k_imul rfl ?_
        refine k_iload_n rfl rfl ?_
        refine k_iadd rfl ?_
        refine k_iA rfl hA (ix40 l k) (by omega) (by decide) (hrow l c17) ?_
        refine k_i2lN rfl (by omega) ?_
        refine k_aload_n rfl rfl ?_
        refine k_getR rfl rfl (sr_o S) (sr_rate S) ?_
        refine k_iload rfl rfl ?_
        refine k_iA rfl (sr_a4 S) rfl (by omega) (by decide) (pr_rt P l c17) ?_
        refine k_i2lN rfl (by omega) ?_
        refine k_lmulN rfl ?_
        refine k_goto rfl ?_
        exact J1 _ (by rw [if_pos c17]) (by omega)
theorem c_R_worth {g : Gx} {h : Hp} {m d : Nat} {s : St} {Q : Option Value → Hp → Prop} (P : PR g h m s) (I : Inv s) {ra : Nat} {F : Nat → Nat → Nat} (hA : isA g h ra 0 160) (hrow : ∀ l k, l < s_lkr s → k < s_told s → hp_i h ra (40 * l + k) = nI (F l k)) (hfb : ∀ l k, l < s_lkr s → k < s_told s → F l k ≤ 20000) (hQ : Q (some (.long (lN (wo s F (s_told s))))) h) : Ct g M_R_worth (d + 1) 0 0 [.ref m, .ref ra] h Q := by
  have S := pr_S P
  have bT := v_told I
  have bL := v_lkr I
  refine ct_of ok_R_worth (by decide) (Nat.le_of_ble_eq_true rfl) [some (.ref m), some (.ref ra), none, none, none] rfl rfl ?_
  refine k_lconst (v := lN 0) rfl (by decide) ?_
  refine k_lst2 rfl rfl ?_
  refine k_iconst (v := nI 0) rfl (by decide) ?_
  refine k_ist4 rfl rfl ?_
  suffices H : ∀ (q i : Nat), i + q = s_told s → Om g M_R_worth (d + 1) Q h 5 [some (.ref m), some (.ref ra), some (.long (lN (wo s F i))), none, some (.int (nI i))] [] from H _ 0 (Nat.zero_add _)
  intro q
  induction q with
  | zero =>
    intro i hi
    have ei : i = s_told s := by omega
    refine k_iload rfl rfl ?_
    refine k_aload_n rfl rfl ?_
    refine k_gI rfl rfl (sr_o S) (pr_told P) ?_
    refine kn_ge rfl (by omega) (by omega) (fun c11 => ?_) (fun c11 => ?_)
    · refine k_lload_n rfl rfl ?_
      refine k_lret rfl rfl (Nat.le_refl _) (Nat.le_refl _) ?_
      rw [ei]; exact hQ
    · exact absurd c11 (by omega)
  | succ q ih =>
    intro i hi
    have hk : i < s_told s := by omega
    refine k_iload rfl rfl ?_
    refine k_aload_n rfl rfl ?_
    refine k_gI rfl rfl (sr_o S) (pr_told P) ?_
    refine kn_ge rfl (by omega) (by omega) (fun c11 => ?_) (fun c11 => ?_)
    · exact absurd c11 (by omega)
    · refine k_lload_n rfl rfl ?_
      refine k_aload_n rfl rfl ?_
      refine k_iload rfl rfl ?_
      refine k_cV1 rfl cw_R_weight wd_511 (sr_o S) rfl (by decide) (Nat.le_of_ble_eq_true rfl) ?_
      refine c_R_weight P I hk ?_
      refine k_i2lN rfl (by have := wt_le I hk; omega) ?_
      refine k_ldc2 rfl wd_515 ?_
      rw [lN_W]
      refine k_aload_n rfl rfl ?_
      refine k_aload_n rfl rfl ?_
      refine k_iload rfl rfl ?_
      refine k_cV2 rfl cw_R_missed wd_516 (sr_o S) rfl (by decide) (Nat.le_of_ble_eq_true rfl) ?_
      refine c_R_missed (f := fun l => F l i) P I hA hk (fun l hl => hrow l i hl hk) (fun l hl => hfb l i hl hk) ?_
      refine k_lsubN rfl (msN_le _ _ _) ?_
      refine k_lmulN rfl ?_
      refine k_laddN rfl ?_
      refine k_lst2 rfl rfl ?_
      refine k_incN4 rfl rfl ?_
      refine k_goto rfl ?_
      exact ih (i + 1) (by omega)
theorem c_R_use {g : Gx} {h : Hp} {m d : Nat} {s : St} {Q : Option Value → Hp → Prop} (P : PR g h m s) (I : Inv s) {l : Nat} (hl : l < s_lkr s) (hQ : Q (some (.int (nI (us s l)))) h) : Ct g M_R_use (d) 0 0 [.ref m, .int (nI l)] h Q := by
  have S := pr_S P
  have bT := v_told I
  have bL := v_lkr I
  refine ct_of ok_R_use (by decide) (Nat.le_of_ble_eq_true rfl) [some (.ref m), some (.int (nI l)), none, none] rfl rfl ?_
  have hb := (v_hr I l hl).2
  refine k_iconst (v := nI 0) rfl (by decide) ?_
  refine k_ist2 rfl rfl ?_
  refine k_iconst (v := nI 0) rfl (by decide) ?_
  refine k_ist3 rfl rfl ?_
  suffices H : ∀ (q i : Nat), i + q = s_hr s l → Om g M_R_use d Q h 4 [some (.ref m), some (.int (nI l)), some (.int (nI (usN s l i))), some (.int (nI i))] [] from H _ 0 (Nat.zero_add _)
  intro q
  induction q with
  | zero =>
    intro i hi
    have ei : i = s_hr s l := by omega
    refine k_iload_n rfl rfl ?_
    refine k_aload_n rfl rfl ?_
    refine k_getR rfl rfl (sr_o S) (sr_hours S) ?_
    refine k_iload_n rfl rfl ?_
    refine k_iA rfl (sr_a5 S) rfl (by omega) (by decide) (pr_hr P l hl) ?_
    refine kn_ge rfl (by omega) (by omega) (fun c11 => ?_) (fun c11 => ?_)
    · refine k_iload_n rfl rfl ?_
      refine k_iret rfl rfl (Nat.le_refl _) (Nat.le_refl _) ?_
      rw [ei]; exact hQ
    · exact absurd c11 (by omega)
  | succ q ih =>
    intro i hi
    refine k_iload_n rfl rfl ?_
    refine k_aload_n rfl rfl ?_
    refine k_getR rfl rfl (sr_o S) (sr_hours S) ?_
    refine k_iload_n rfl rfl ?_
    refine k_iA rfl (sr_a5 S) rfl (by omega) (by decide) (pr_hr P l hl) ?_
    refine kn_ge rfl (by omega) (by omega) (fun c11 => ?_) (fun c11 => ?_)
    · exact absurd c11 (by omega)
    · refine k_iload_n rfl rfl ?_
      refine k_aload_n rfl rfl ?_
      refine k_getR rfl rfl (sr_o S) (sr_barred S) ?_
      refine k_bipush (v := nI 24) rfl (by decide) ?_
      refine k_iload_n rfl rfl ?_
      refine k_imul rfl ?_
      refine k_iload_n rfl rfl ?_
      refine k_iadd rfl ?_
      refine k_zA rfl (sr_a6 S) (ix24 l i) (by omega) (by decide) (pr_bd P l i (by omega) (by omega)) ?_
      refine kb_eq rfl (fun c26 => ?_) (fun c26 => ?_)
      · refine k_iconst (v := nI 1) rfl (by decide) ?_
        refine k_iaddN rfl ?_
        refine k_ist2 rfl rfl ?_
        refine k_incN3 rfl rfl ?_
        refine k_goto rfl ?_
        have e := ih (i + 1) (by omega); simp only [usN] at e; rw [c26] at e; exact e
      · refine k_iconst (v := nI 0) rfl (by decide) ?_
        refine k_goto rfl ?_
        refine k_iaddN rfl ?_
        refine k_ist2 rfl rfl ?_
        refine k_incN3 rfl rfl ?_
        refine k_goto rfl ?_
        have e := ih (i + 1) (by omega); simp only [usN] at e; rw [c26] at e; exact e
theorem c_R_given {g : Gx} {h : Hp} {m d : Nat} {s : St} {Q : Option Value → Hp → Prop} (P : PR g h m s) (I : Inv s) {ra l : Nat} {F : Nat → Nat → Nat} (hA : isA g h ra 0 160) (hl : l < 4) (hrow : ∀ k, k < s_told s → hp_i h ra (40 * l + k) = nI (F l k)) (hQ : Q (some (.int (nI (gv F l (s_told s))))) h) : Ct g M_R_given (d) 0 0 [.ref m, .ref ra, .int (nI l)] h Q := by
  have S := pr_S P
  have bT := v_told I
  have bL := v_lkr I
  refine ct_of ok_R_given (by decide) (Nat.le_of_ble_eq_true rfl) [some (.ref m), some (.ref ra), some (.int (nI l)), none, none] rfl rfl ?_
  refine k_iconst (v := nI 0) rfl (by decide) ?_
  refine k_ist3 rfl rfl ?_
  refine k_iconst (v := nI 0) rfl (by decide) ?_
  refine k_ist4 rfl rfl ?_
  suffices H : ∀ (q i : Nat), i + q = s_told s → Om g M_R_given (d) Q h 5 [some (.ref m), some (.ref ra), some (.int (nI l)), some (.int (nI (gv F l i))), some (.int (nI i))] [] from H _ 0 (Nat.zero_add _)
  intro q
  induction q with
  | zero =>
    intro i hi
    have ei : i = s_told s := by omega
    refine k_iload rfl rfl ?_
    refine k_aload_n rfl rfl ?_
    refine k_gI rfl rfl (sr_o S) (pr_told P) ?_
    refine kn_ge rfl (by omega) (by omega) (fun c11 => ?_) (fun c11 => ?_)
    · refine k_iload_n rfl rfl ?_
      refine k_iret rfl rfl (Nat.le_refl _) (Nat.le_refl _) ?_
      rw [ei]; exact hQ
    · exact absurd c11 (by omega)
  | succ q ih =>
    intro i hi
    have hk : i < s_told s := by omega
    refine k_iload rfl rfl ?_
    refine k_aload_n rfl rfl ?_
    refine k_gI rfl rfl (sr_o S) (pr_told P) ?_
    refine kn_ge rfl (by omega) (by omega) (fun c11 => ?_) (fun c11 => ?_)
    · exact absurd c11 (by omega)
    · refine k_iload_n rfl rfl ?_
      refine k_aload_n rfl rfl ?_
      refine k_bipush (v := nI 40) rfl (by decide) ?_
      refine k_iload_n rfl rfl ?_
      refine k_imul rfl ?_
      refine k_iload rfl rfl ?_
      refine k_iadd rfl ?_
      refine k_iA rfl hA (ix40 l i) (by omega) (by decide) (hrow i hk) ?_
      refine k_iaddN rfl ?_
      refine k_ist3 rfl rfl ?_
      refine k_incN4 rfl rfl ?_
      refine k_goto rfl ?_
      exact ih (i + 1) (by omega)
theorem c_R_size {g : Gx} {h : Hp} {m d : Nat} {s : St} {Q : Option Value → Hp → Prop} (P : PR g h m s) (I : Inv s) (hQ : Q (some (.int (nI (szN s (s_lkr s))))) h) : Ct g M_R_size (d + 1) 0 0 [.ref m] h Q := by
  have S := pr_S P
  have bT := v_told I
  have bL := v_lkr I
  refine ct_of ok_R_size (by decide) (Nat.le_of_ble_eq_true rfl) [some (.ref m), none, none] rfl rfl ?_
  refine k_iconst (v := nI 0) rfl (by decide) ?_
  refine k_ist1 rfl rfl ?_
  refine k_iconst (v := nI 0) rfl (by decide) ?_
  refine k_ist2 rfl rfl ?_
  suffices H : ∀ (q i : Nat), i + q = s_lkr s → Om g M_R_size (d + 1) Q h 4 [some (.ref m), some (.int (nI (szN s i))), some (.int (nI i))] [] from H _ 0 (Nat.zero_add _)
  intro q
  induction q with
  | zero =>
    intro i hi
    have ei : i = s_lkr s := by omega
    refine k_iload_n rfl rfl ?_
    refine k_aload_n rfl rfl ?_
    refine k_gI rfl rfl (sr_o S) (pr_lkr P) ?_
    refine kn_ge rfl (by omega) (by omega) (fun c9 => ?_) (fun c9 => ?_)
    · refine k_iload_n rfl rfl ?_
      refine k_iret rfl rfl (Nat.le_refl _) (Nat.le_refl _) ?_
      rw [ei]; exact hQ
    · exact absurd c9 (by omega)
  | succ q ih =>
    intro i hi
    have hk : i < s_lkr s := by omega
    refine k_iload_n rfl rfl ?_
    refine k_aload_n rfl rfl ?_
    refine k_gI rfl rfl (sr_o S) (pr_lkr P) ?_
    refine kn_ge rfl (by omega) (by omega) (fun c9 => ?_) (fun c9 => ?_)
    · exact absurd c9 (by omega)
    · refine k_iload_n rfl rfl ?_
      refine k_aload_n rfl rfl ?_
      refine k_aload_n rfl rfl ?_
      refine k_getR rfl rfl (sr_o S) (sr_plan S) ?_
      refine k_iload_n rfl rfl ?_
      refine k_cV2 rfl cw_R_given wd_520 (sr_o S) rfl (by decide) (Nat.le_of_ble_eq_true rfl) ?_
      refine c_R_given (F := s_pl s) P I (sr_a7 S) (by omega) (fun k hk2 => pr_pl P i k (by omega) (by omega)) ?_
      refine k_iaddN rfl ?_
      refine k_ist1 rfl rfl ?_
      refine k_incN2 rfl rfl ?_
      refine k_goto rfl ?_
      exact ih (i + 1) (by omega)
theorem c_R_slot {g : Gx} {h : Hp} {m d : Nat} {s : St} {Q : Option Value → Hp → Prop} (P : PR g h m s) (I : Inv s) {i : Nat} (hn : 0 < s_told s) (hi : i < 2147483648) (hQ : Q (some (.int (nI (40 * (i / s_told s) + i % s_told s)))) h) : Ct g M_R_slot (d) 0 0 [.ref m, .int (nI i)] h Q := by
  have S := pr_S P
  have bT := v_told I
  have bL := v_lkr I
  refine ct_of ok_R_slot (by decide) (Nat.le_of_ble_eq_true rfl) [some (.ref m), some (.int (nI i))] rfl rfl ?_
  refine k_bipush (v := nI 40) rfl (by decide) ?_
  refine k_iload_n rfl rfl ?_
  refine k_aload_n rfl rfl ?_
  refine k_gI rfl rfl (sr_o S) (pr_told P) ?_
  refine k_idivN rfl (by omega) (by omega) (by omega) ?_
  refine k_imulN rfl ?_
  refine k_iload_n rfl rfl ?_
  refine k_aload_n rfl rfl ?_
  refine k_gI rfl rfl (sr_o S) (pr_told P) ?_
  refine k_iremN rfl (by omega) (by omega) (by omega) ?_
  refine k_iaddN rfl ?_
  refine k_iret rfl rfl (Nat.le_refl _) (Nat.le_refl _) ?_
  exact hQ
theorem c_R_all {g : Gx} {h : Hp} {m d : Nat} {s : St} {Q : Option Value → Hp → Prop} (P : PR g h m s) (I : Inv s) (hQ : Q (some (.long (lN (alN s (s_told s))))) h) : Ct g M_R_all (d) 0 0 [.ref m] h Q := by
  have S := pr_S P
  have bT := v_told I
  have bL := v_lkr I
  refine ct_of ok_R_all (by decide) (Nat.le_of_ble_eq_true rfl) [some (.ref m), none, none, none] rfl rfl ?_
  refine k_lconst (v := lN 0) rfl (by decide) ?_
  refine k_lst1 rfl rfl ?_
  refine k_iconst (v := nI 0) rfl (by decide) ?_
  refine k_ist3 rfl rfl ?_
  suffices H : ∀ (q i : Nat), i + q = s_told s → Om g M_R_all (d) Q h 4 [some (.ref m), some (.long (lN (alN s i))), none, some (.int (nI i))] [] from H _ 0 (Nat.zero_add _)
  intro q
  induction q with
  | zero =>
    intro i hi
    have ei : i = s_told s := by omega
    refine k_iload_n rfl rfl ?_
    refine k_aload_n rfl rfl ?_
    refine k_gI rfl rfl (sr_o S) (pr_told P) ?_
    refine kn_ge rfl (by omega) (by omega) (fun c9 => ?_) (fun c9 => ?_)
    · refine k_lload_n rfl rfl ?_
      refine k_lret rfl rfl (Nat.le_refl _) (Nat.le_refl _) ?_
      rw [ei]; exact hQ
    · exact absurd c9 (by omega)
  | succ q ih =>
    intro i hi
    have hk : i < s_told s := by omega
    refine k_iload_n rfl rfl ?_
    refine k_aload_n rfl rfl ?_
    refine k_gI rfl rfl (sr_o S) (pr_told P) ?_
    refine kn_ge rfl (by omega) (by omega) (fun c9 => ?_) (fun c9 => ?_)
    · exact absurd c9 (by omega)
    · refine k_lload_n rfl rfl ?_
      refine k_aload_n rfl rfl ?_
      refine k_getR rfl rfl (sr_o S) (sr_count S) ?_
      refine k_iload_n rfl rfl ?_
      refine k_iA rfl (sr_a3 S) (c0_ix i) (by omega) (by decide) (pr_cn P 0 i (by decide) hk) ?_
      refine k_i2lN rfl (by have := v_cn I 0 i (by decide) hk; omega) ?_
      refine k_laddN rfl ?_
      refine k_lst1 rfl rfl ?_
      refine k_incN3 rfl rfl ?_
      refine k_goto rfl ?_
      exact ih (i + 1) (by omega)
theorem c_R_left {g : Gx} {h : Hp} {m d : Nat} {s : St} {Q : Option Value → Hp → Prop} (P : PR g h m s) (I : Inv s) (hQ : Q (some (.long (lN (lfN s (s_told s))))) h) : Ct g M_R_left (d + 1) 0 0 [.ref m] h Q := by
  have S := pr_S P
  have bT := v_told I
  have bL := v_lkr I
  refine ct_of ok_R_left (by decide) (Nat.le_of_ble_eq_true rfl) [some (.ref m), none, none, none] rfl rfl ?_
  have bK := v_lks I
  have hld : ∀ l k, l < s_lkr s → k < s_told s → s_ld s l k ≤ 20000 := fun l k h1 h2 => by have := v_ld I l k (by omega) h2; omega
  refine k_lconst (v := lN 0) rfl (by decide) ?_
  refine k_lst1 rfl rfl ?_
  refine k_iconst (v := nI 0) rfl (by decide) ?_
  refine k_ist3 rfl rfl ?_
  suffices H : ∀ (q i : Nat), i + q = s_told s → Om g M_R_left (d + 1) Q h 4 [some (.ref m), some (.long (lN (lfN s i))), none, some (.int (nI i))] [] from H _ 0 (Nat.zero_add _)
  intro q
  induction q with
  | zero =>
    intro i hi
    have ei : i = s_told s := by omega
    refine k_iload_n rfl rfl ?_
    refine k_aload_n rfl rfl ?_
    refine k_gI rfl rfl (sr_o S) (pr_told P) ?_
    refine kn_ge rfl (by omega) (by omega) (fun c9 => ?_) (fun c9 => ?_)
    · refine k_lload_n rfl rfl ?_
      refine k_lret rfl rfl (Nat.le_refl _) (Nat.le_refl _) ?_
      rw [ei]; exact hQ
    · exact absurd c9 (by omega)
  | succ q ih =>
    intro i hi
    have hk : i < s_told s := by omega
    refine k_iload_n rfl rfl ?_
    refine k_aload_n rfl rfl ?_
    refine k_gI rfl rfl (sr_o S) (pr_told P) ?_
    refine kn_ge rfl (by omega) (by omega) (fun c9 => ?_) (fun c9 => ?_)
    · exact absurd c9 (by omega)
    · refine k_lload_n rfl rfl ?_
      refine k_aload_n rfl rfl ?_
      refine k_getR rfl rfl (sr_o S) (sr_count S) ?_
      refine k_iload_n rfl rfl ?_
      refine k_iA rfl (sr_a3 S) (c0_ix i) (by omega) (by decide) (pr_cn P 0 i (by decide) hk) ?_
      refine k_i2lN rfl (by have := v_cn I 0 i (by decide) hk; omega) ?_
      refine k_aload_n rfl rfl ?_
      refine k_aload_n rfl rfl ?_
      refine k_getR rfl rfl (sr_o S) (sr_looked S) ?_
      refine k_iload_n rfl rfl ?_
      refine k_cV2 rfl cw_R_missed wd_516 (sr_o S) rfl (by decide) (Nat.le_of_ble_eq_true rfl) ?_
      refine c_R_missed (f := fun l => s_ld s l i) P I (sr_a9 S) hk (fun l hl => pr_ld P l i (by omega) hk) (fun l hl => hld l i hl hk) ?_
      refine k_lmulN rfl ?_
      refine k_laddN rfl ?_
      refine k_lst1 rfl rfl ?_
      refine k_incN3 rfl rfl ?_
      refine k_goto rfl ?_
      exact ih (i + 1) (by omega)
theorem c_R_common {g : Gx} {h : Hp} {d a b : Nat} {Q : Option Value → Hp → Prop} (ha : a < 2 ^ 63) (hb : b < 2 ^ 63) (hQ : Q (some (.long (lN (Nat.gcd a b)))) h) : Ct g M_R_common d 0 0 [.long (lN a), .long (lN b)] h Q := by
  refine ct_of ok_R_common (by decide) (Nat.le_of_ble_eq_true rfl) [some (.long (lN a)), none, some (.long (lN b)), none, none, none, none, none, none, none] rfl rfl ?_
  refine k_lload_n rfl rfl ?_
  refine k_lst4 rfl rfl ?_
  refine k_lload_n rfl rfl ?_
  refine k_lst6 rfl rfl ?_
  suffices H : ∀ (q x y : Nat) (z : Option Value), y < q → x < 2 ^ 63 → y < 2 ^ 63 → Nat.gcd x y = Nat.gcd a b → Om g M_R_common d Q h 6 [some (.long (lN a)), none, some (.long (lN b)), none, some (.long (lN x)), none, some (.long (lN y)), none, z, none] [] from H (b + 1) a b none (by omega) ha hb rfl
  intro q
  induction q with
  | zero =>
    intro x y z h1
    exact absurd h1 (Nat.not_lt_zero y)
  | succ q ih =>
    intro x y z h1 hx hy e
    refine k_lload rfl rfl ?_
    refine k_lconst (v := lN 0) rfl (by decide) ?_
    refine klN_eq rfl rfl hy (by decide) (fun c9 => ?_) (fun c9 => ?_)
    · subst c9
      rw [Nat.gcd_zero_right] at e
      refine k_lload rfl rfl ?_
      refine k_lret rfl rfl (Nat.le_refl _) (Nat.le_refl _) ?_
      rw [e]; exact hQ
    · have hp : 0 < y := by omega
      have hm : x % y < y := Nat.mod_lt _ hp
      refine k_lload rfl rfl ?_
      refine k_lload rfl rfl ?_
      refine k_lremN rfl hx hp hy ?_
      refine k_lst8 rfl rfl ?_
      refine k_lload rfl rfl ?_
      refine k_lst4 rfl rfl ?_
      refine k_lload rfl rfl ?_
      refine k_lst6 rfl rfl ?_
      refine k_goto rfl ?_
      exact ih y (x % y) _ (by omega) hy (by omega) (by rw [← e, Nat.gcd_comm x y, Nat.gcd_rec y x, Nat.gcd_comm])
/-- a part of a / b in lowest terms -/
def ptI (a b : Nat) (p : Int32) : Int64 := if p < 0 ∨ 1 < p then -1 else if a = 0 ∨ b = 0 then p.toInt64 else lN ((if p = 0 then a else b) / Nat.gcd a b)
theorem c_R_part {g : Gx} {h : Hp} {d a b : Nat} {p : Int32} {Q : Option Value → Hp → Prop} (ha : a < 2 ^ 63) (hb : b < 2 ^ 63) (hQ : Q (some (.long (ptI a b p))) h) : Ct g M_R_part (d + 1) 0 0 [.long (lN a), .long (lN b), .int p] h Q := by
  refine ct_of ok_R_part (by decide) (Nat.le_of_ble_eq_true rfl) [some (.long (lN a)), none, some (.long (lN b)), none, some (.int p), none, none] rfl rfl ?_
  refine k_iload rfl rfl ?_
  refine k_if_lt rfl (fun c2 => ?_) (fun c2 => ?_)
  · refine k_ldc2 rfl wd_552 ?_
    refine k_lret rfl rfl (Nat.le_refl _) (Nat.le_refl _) ?_
    rw [show (-1 : Int64) = ptI a b p from by unfold ptI; rw [if_pos (Or.inl c2)]]; exact hQ
  · refine k_iload rfl rfl ?_
    refine k_iconst (v := 1) rfl (by decide) ?_
    refine k_icmp_le rfl (fun c8 => ?_) (fun c8 => ?_)
    · refine k_lload_n rfl rfl ?_
      refine k_lconst (v := lN 0) rfl (by decide) ?_
      refine klN_eq rfl rfl ha (by decide) (fun c17 => ?_) (fun c17 => ?_)
      · refine k_iload rfl rfl ?_
        refine k_i2l rfl ?_
        refine k_lret rfl rfl (Nat.le_refl _) (Nat.le_refl _) ?_
        rw [show p.toInt64 = ptI a b p from by unfold ptI; rw [if_neg (fun z => z.elim c2 (Int32.not_lt.mpr c8)), if_pos (Or.inl c17)]]; exact hQ
      · refine k_lload_n rfl rfl ?_
        refine k_lconst (v := lN 0) rfl (by decide) ?_
        refine klN_ne rfl rfl hb (by decide) (fun c23 => ?_) (fun c23 => ?_)
        · refine k_lload_n rfl rfl ?_
          refine k_lload_n rfl rfl ?_
          have hg : 0 < Nat.gcd a b := Nat.gcd_pos_of_pos_left _ (by omega)
          have hg2 : Nat.gcd a b ≤ a := Nat.le_of_dvd (by omega) (Nat.gcd_dvd_left a b)
          refine k_cS2 rfl cw_R_common wd_560 (by decide) (Nat.le_of_ble_eq_true rfl) ?_
          refine c_R_common ha hb ?_
          refine k_lst5 rfl rfl ?_
          refine k_iload rfl rfl ?_
          refine k_if_ne rfl (fun c40 => ?_) (fun c40 => ?_)
          · refine k_lload_n rfl rfl ?_
            refine k_lload rfl rfl ?_
            refine k_ldivN rfl (by omega) (by omega) (by omega) ?_
            refine k_lret rfl rfl (Nat.le_refl _) (Nat.le_refl _) ?_
            rw [show lN (b / Nat.gcd a b) = ptI a b p from by unfold ptI; rw [if_neg (fun z => z.elim c2 (Int32.not_lt.mpr c8)), if_neg (fun z => z.elim c17 c23), if_neg c40]]; exact hQ
          · refine k_lload_n rfl rfl ?_
            refine k_lload rfl rfl ?_
            refine k_ldivN rfl (by omega) (by omega) (by omega) ?_
            refine k_goto rfl ?_
            refine k_lret rfl rfl (Nat.le_refl _) (Nat.le_refl _) ?_
            rw [show lN (a / Nat.gcd a b) = ptI a b p from by unfold ptI; rw [if_neg (fun z => z.elim c2 (Int32.not_lt.mpr c8)), if_neg (fun z => z.elim c17 c23), if_pos c40]]; exact hQ
        · refine k_iload rfl rfl ?_
          refine k_i2l rfl ?_
          refine k_lret rfl rfl (Nat.le_refl _) (Nat.le_refl _) ?_
          rw [show p.toInt64 = ptI a b p from by unfold ptI; rw [if_neg (fun z => z.elim c2 (Int32.not_lt.mpr c8)), if_pos (Or.inr c23)]]; exact hQ
    · refine k_ldc2 rfl wd_552 ?_
      refine k_lret rfl rfl (Nat.le_refl _) (Nat.le_refl _) ?_
      rw [show (-1 : Int64) = ptI a b p from by unfold ptI; rw [if_pos (Or.inr (Int32.not_le.mp c8))]]; exact hQ
