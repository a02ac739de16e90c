theorem c_S_isCell {g : Gx} {h : Hp} {o d : Nat} {p : Nat → Nat} {s : St} {Q : Option Value → Hp → Prop} (P : PC g h o p s) (I : Inv s) (c : Int32) (hQ : Q (some (.int (bI (isc (nI (s_cells s)) c)))) h) : Ct g M_S_isCell (d) 0 0 [.ref o, .int c] h Q := by
  have S := pc_S P
  have bT := v_told I
  have bL := v_lkr I
  refine ct_of ok_S_isCell (by decide) (Nat.le_of_ble_eq_true rfl) [some (.ref o), some (.int c)] rfl rfl ?_
  refine k_iload_n rfl rfl ?_
  refine k_if_lt rfl (fun c1 => ?_) (fun c1 => ?_)
  · refine k_iconst (v := nI 0) rfl (by decide) ?_
    refine k_zret rfl rfl (by decide) (Nat.le_refl _) (Nat.le_refl _) ?_
    rw [show (nI 0 : Int32) = bI (isc (nI (s_cells s)) c) from by simp only [isc, bI]; simp [nI_0, nI_one, Int32.not_le.mpr c1]]; exact hQ
  · refine k_iload_n rfl rfl ?_
    refine k_aload_n rfl rfl ?_
    refine k_gI rfl rfl (sc_o S) (pc_cells P) ?_
    refine k_icmp_ge rfl (fun c9 => ?_) (fun c9 => ?_)
    · refine k_iconst (v := nI 0) rfl (by decide) ?_
      refine k_zret rfl rfl (by decide) (Nat.le_refl _) (Nat.le_refl _) ?_
      rw [show (nI 0 : Int32) = bI (isc (nI (s_cells s)) c) from by simp only [isc, bI]; simp [nI_0, nI_one, Int32.not_lt.mpr c9]]; exact hQ
    · refine k_iconst (v := nI 1) rfl (by decide) ?_
      refine k_goto rfl ?_
      refine k_zret rfl rfl (by decide) (Nat.le_refl _) (Nat.le_refl _) ?_
      rw [show (nI 1 : Int32) = bI (isc (nI (s_cells s)) c) from by simp only [isc, bI]; simp [nI_0, nI_one, Int32.not_lt.mp c1, Int32.not_le.mp c9]]; exact hQ
theorem c_S_isLooker {g : Gx} {h : Hp} {o d : Nat} {p : Nat → Nat} {s : St} {Q : Option Value → Hp → Prop} (P : PC g h o p s) (I : Inv s) (c : Int32) (hQ : Q (some (.int (bI (isc (nI (s_lkr s)) c)))) h) : Ct g M_S_isLooker (d) 0 0 [.ref o, .int c] h Q := by
  have S := pc_S P
  have bT := v_told I
  have bL := v_lkr I
  refine ct_of ok_S_isLooker (by decide) (Nat.le_of_ble_eq_true rfl) [some (.ref o), some (.int c)] rfl rfl ?_
  refine k_iload_n rfl rfl ?_
  refine k_if_lt rfl (fun c1 => ?_) (fun c1 => ?_)
  · refine k_iconst (v := nI 0) rfl (by decide) ?_
    refine k_zret rfl rfl (by decide) (Nat.le_refl _) (Nat.le_refl _) ?_
    rw [show (nI 0 : Int32) = bI (isc (nI (s_lkr s)) c) from by simp only [isc, bI]; simp [nI_0, nI_one, Int32.not_le.mpr c1]]; exact hQ
  · refine k_iload_n rfl rfl ?_
    refine k_aload_n rfl rfl ?_
    refine k_gI rfl rfl (sc_o S) (pc_lkr P) ?_
    refine k_icmp_ge rfl (fun c9 => ?_) (fun c9 => ?_)
    · refine k_iconst (v := nI 0) rfl (by decide) ?_
      refine k_zret rfl rfl (by decide) (Nat.le_refl _) (Nat.le_refl _) ?_
      rw [show (nI 0 : Int32) = bI (isc (nI (s_lkr s)) c) from by simp only [isc, bI]; simp [nI_0, nI_one, Int32.not_lt.mpr c9]]; exact hQ
    · refine k_iconst (v := nI 1) rfl (by decide) ?_
      refine k_goto rfl ?_
      refine k_zret rfl rfl (by decide) (Nat.le_refl _) (Nat.le_refl _) ?_
      rw [show (nI 1 : Int32) = bI (isc (nI (s_lkr s)) c) from by simp only [isc, bI]; simp [nI_0, nI_one, Int32.not_lt.mp c1, Int32.not_le.mp c9]]; exact hQ
theorem c_S_isZeroOrOne {g : Gx} {h : Hp} {d : Nat} {Q : Option Value → Hp → Prop} (x : Int32) (hQ : Q (some (.int (bI (decide (x = 0) || decide (x = 1))))) h) : Ct g M_S_isZeroOrOne d 0 0 [.int x] h Q := by
  refine ct_of ok_S_isZeroOrOne (by decide) (Nat.le_of_ble_eq_true rfl) [some (.int x)] rfl rfl ?_
  refine k_iload_n rfl rfl ?_
  refine k_if_eq rfl (fun c1 => ?_) (fun c1 => ?_)
  · refine k_iconst (v := nI 1) rfl (by decide) ?_
    refine k_goto rfl ?_
    refine k_zret rfl rfl (by decide) (Nat.le_refl _) (Nat.le_refl _) ?_
    rw [decide_eq_true c1] at hQ; exact hQ
  · refine k_iload_n rfl rfl ?_
    refine k_iconst (v := 1) rfl (by decide) ?_
    refine k_icmp_ne rfl (fun c6 => ?_) (fun c6 => ?_)
    · refine k_iconst (v := nI 0) rfl (by decide) ?_
      refine k_zret rfl rfl (by decide) (Nat.le_refl _) (Nat.le_refl _) ?_
      rw [decide_eq_false c1, decide_eq_false c6] at hQ; exact hQ
    · refine k_iconst (v := nI 1) rfl (by decide) ?_
      refine k_goto rfl ?_
      refine k_zret rfl rfl (by decide) (Nat.le_refl _) (Nat.le_refl _) ?_
      rw [decide_eq_false c1, decide_eq_true c6] at hQ; exact hQ
theorem c_S_isWithin {g : Gx} {h : Hp} {d : Nat} {Q : Option Value → Hp → Prop} (x a b : Int64) (hQ : Q (some (.int (bI (decide (a ≤ x) && decide (x ≤ b))))) h) : Ct g M_S_isWithin d 0 0 [.long x, .long a, .long b] h Q := by
  refine ct_of ok_S_isWithin (by decide) (Nat.le_of_ble_eq_true rfl) [some (.long x), none, some (.long a), none, some (.long b), none] rfl rfl ?_
  refine k_lload_n rfl rfl ?_
  refine k_lload_n rfl rfl ?_
  refine kl_lt rfl rfl (fun c2 => ?_) (fun c2 => ?_)
  · refine k_iconst (v := nI 0) rfl (by decide) ?_
    refine k_zret rfl rfl (by decide) (Nat.le_refl _) (Nat.le_refl _) ?_
    rw [decide_eq_false (Int64.not_le.mpr c2)] at hQ; exact hQ
  · refine k_lload_n rfl rfl ?_
    refine k_lload rfl rfl ?_
    refine kl_gt rfl rfl (fun c9 => ?_) (fun c9 => ?_)
    · refine k_iconst (v := nI 0) rfl (by decide) ?_
      refine k_zret rfl rfl (by decide) (Nat.le_refl _) (Nat.le_refl _) ?_
      rw [decide_eq_true (Int64.not_lt.mp c2), decide_eq_false (Int64.not_le.mpr c9)] at hQ; exact hQ
    · refine k_iconst (v := nI 1) rfl (by decide) ?_
      refine k_goto rfl ?_
      refine k_zret rfl rfl (by decide) (Nat.le_refl _) (Nat.le_refl _) ?_
      rw [decide_eq_true (Int64.not_lt.mp c2), decide_eq_true (Int64.not_lt.mp c9)] at hQ; exact hQ
theorem c_S_placeOf {g : Gx} {h : Hp} {o d : Nat} {p : Nat → Nat} {s : St} {Q : Option Value → Hp → Prop} (P : PC g h o p s) (I : Inv s) (c : Int32) (hQ : Q (some (.int (sI (plS s c)))) h) : Ct g M_S_placeOf (d) 0 0 [.ref o, .int c] h Q := by
  have S := pc_S P
  have bT := v_told I
  have bL := v_lkr I
  refine ct_of ok_S_placeOf (by decide) (Nat.le_of_ble_eq_true rfl) [some (.ref o), some (.int c), none] rfl rfl ?_
  refine k_iconst (v := nI 0) rfl (by decide) ?_
  refine k_ist2 rfl rfl ?_
  unfold plS at hQ
  suffices H : ∀ (q i : Nat), i + q = s_told s → plc (fun k => nI (s_num s k)) c (s_told s) 0 = plc (fun k => nI (s_num s k)) c q i → Om g M_S_placeOf d Q h 2 [some (.ref o), some (.int c), some (.int (nI i))] [] from H _ 0 (Nat.zero_add _) rfl
  intro q
  induction q with
  | zero =>
    intro i hi e
    refine k_iload_n rfl rfl ?_
    refine k_aload_n rfl rfl ?_
    refine k_gI rfl rfl (sc_o S) (pc_told P) ?_
    refine kn_ge rfl (by omega) (by omega) (fun c7 => ?_) (fun c7 => ?_)
    · refine k_iconst (v := -1) rfl (by decide) ?_
      refine k_iret rfl rfl (Nat.le_refl _) (Nat.le_refl _) ?_
      rw [e] at hQ; exact hQ
    · exact absurd c7 (by omega)
  | succ q ih =>
    intro i hi e
    have hit : i < s_told s := by omega
    have hpi := (pc_m P).1 i (by omega)
    refine k_iload_n rfl rfl ?_
    refine k_aload_n rfl rfl ?_
    refine k_gI rfl rfl (sc_o S) (pc_told P) ?_
    refine kn_ge rfl (by omega) (by omega) (fun c7 => ?_) (fun c7 => ?_)
    · exact absurd c7 (by omega)
    · refine k_aload_n rfl rfl ?_
      refine k_getR rfl rfl (sc_o S) (sc_told S) ?_
      refine k_iload_n rfl rfl ?_
      refine k_aald (q := ca o (p i)) rfl (sc_a2 S) rfl (by decide) rfl (by omega) (by decide) (pc_r P i (by omega)) ?_
      refine k_gI rfl rfl (sc_c S (p i) hpi).1 (pc_t P i hit).1 ?_
      refine k_iload_n rfl rfl ?_
      refine k_icmp_ne rfl (fun c20 => ?_) (fun c20 => ?_)
      · refine k_incN2 rfl rfl ?_
        refine k_goto rfl ?_
        exact ih (i + 1) (by omega) (by rw [e]; simp only [plc]; rw [if_neg c20])
      · refine k_iload_n rfl rfl ?_
        refine k_iret rfl rfl (Nat.le_refl _) (Nat.le_refl _) ?_
        rw [e] at hQ; simp only [plc] at hQ; rw [if_pos c20] at hQ; exact hQ
/-- a told cell by itself: what its sums rest on -/
def cB (g : Gx) (h : Hp) (o : Nat) (s : St) (j i : Nat) : Prop := j < 40 ∧ i < s_told s ∧ cS g h o j ∧ isA g h (o + 1) 0 4 ∧ hp_i h (ca o j) 6 = nI (s_ar s i) ∧ hp_i h (ca o j) 7 = nI (720 / s_ar s i) ∧ (∀ t, t < 4 → hp_i h (ca o j + 1) t = nI (s_cn s t i)) ∧ ∀ l, l < 4 → hp_i h (o + 1) l = nI (if l < s_lkr s then s_rt s l else 0)
theorem cB_of {g : Gx} {h : Hp} {o : Nat} {p : Nat → Nat} {s : St} (P : PC g h o p s) {i : Nat} (hi : i < s_told s) : cB g h o s (p i) i := by
  have b := pc_told40 P
  have hp := (pc_m P).1 i (by omega)
  obtain ⟨a1, a2, a3, a4, a5, a6⟩ := pc_t P i hi
  exact ⟨hp, hi, sc_c (pc_S P) _ hp, sc_a1 (pc_S P), a2, a3, a4, pc_rt P⟩
def wtF (s : St) (i : Nat) : Nat → Nat
  | 0 => 0
  | t + 1 => wtF s i t + s_cn s t i
theorem wtF_4 (s : St) (i : Nat) : wtF s i 4 = wtN s i := by simp [wtF, wtN]
theorem c_C_weight {g : Gx} {h : Hp} {o d j i : Nat} {s : St} {Q : Option Value → Hp → Prop} (I : Inv s) (B : cB g h o s j i) (hQ : Q (some (.long (lN (wtN s i)))) h) : Ct g M_C_weight (d) 0 0 [.ref (ca o j)] h Q := by
  obtain ⟨hj, hi, C, A1, e7, e8, ec, er⟩ := id B
  obtain ⟨c0, c1, c2, c3, c4, c5, r0, r1, r2, r3, r4, r5⟩ := id C
  have ha := v_ar I i hi
  have hal := ar_le I hi
  refine ct_of ok_C_weight (by decide) (Nat.le_of_ble_eq_true rfl) [some (.ref (ca o j)), none, none, none] rfl rfl ?_
  refine k_lconst (v := lN 0) rfl (by decide) ?_
  refine k_lst1 rfl rfl ?_
  refine k_iconst (v := nI 0) rfl (by decide) ?_
  refine k_ist3 rfl rfl ?_
  suffices H : ∀ (q t : Nat), t + q = 4 → Om g M_C_weight d Q h 4 [some (.ref (ca o j)), some (.long (lN (wtF s i t))), none, some (.int (nI t))] [] from H 4 0 rfl
  intro q
  induction q with
  | zero =>
    intro t ht
    have et : t = 4 := by omega
    subst et
    refine k_iload_n rfl rfl ?_
    refine k_iconst (v := nI 4) rfl (by decide) ?_
    refine kn_ge rfl (by omega) (by omega) (fun c6 => ?_) (fun c6 => ?_)
    · refine k_lload_n rfl rfl ?_
      refine k_lret rfl rfl (Nat.le_refl _) (Nat.le_refl _) ?_
      rw [wtF_4]; exact hQ
    · exact absurd c6 (by omega)
  | succ q ih =>
    intro t ht
    have hct := v_cn I t i (by omega) hi
    refine k_iload_n rfl rfl ?_
    refine k_iconst (v := nI 4) rfl (by decide) ?_
    refine kn_ge rfl (by omega) (by omega) (fun c6 => ?_) (fun c6 => ?_)
    · exact absurd c6 (by omega)
    · refine k_lload_n rfl rfl ?_
      refine k_aload_n rfl rfl ?_
      refine k_getR rfl rfl c0 r1 ?_
      refine k_iload_n rfl rfl ?_
      refine k_iA rfl c1 rfl (by omega) (by decide) (ec t (by omega)) ?_
      refine k_i2lN rfl (by omega) ?_
      refine k_laddN rfl ?_
      refine k_lst1 rfl rfl ?_
      refine k_incN3 rfl rfl ?_
      refine k_goto rfl ?_
      exact ih (t + 1) (by omega)
theorem c_C_missedBy {g : Gx} {h : Hp} {o d j i : Nat} {s : St} {Q : Option Value → Hp → Prop} (I : Inv s) (B : cB g h o s j i) {l x r : Nat} {f : Nat → Nat} (er1 : r = (if l < s_lkr s then s_rt s l else 0)) (hx : x ≤ 20001) (hfx : f l = x) (hQ : Q (some (.long (lN (ms1 s f i l)))) h) : Ct g M_C_missedBy (d + 1) 0 0 [.ref (ca o j), .int (nI r), .int (nI x)] h Q := by
  obtain ⟨hj, hi, C, A1, e7, e8, ec, er⟩ := id B
  obtain ⟨c0, c1, c2, c3, c4, c5, r0, r1, r2, r3, r4, r5⟩ := id C
  have ha := v_ar I i hi
  have hal := ar_le I hi
  refine ct_of ok_C_missedBy (by decide) (Nat.le_of_ble_eq_true rfl) [some (.ref (ca o j)), some (.int (nI r)), some (.int (nI x)), none] rfl rfl ?_
  have er2 : r ≤ 1000 := by
    rw [er1]
    by_cases z : l < s_lkr s
    · rw [if_pos z]; exact (v_rt I l z).2
    · rw [if_neg z]; omega
  have hxr : x * r ≤ 20001 * 1000 := Nat.mul_le_mul hx er2
  have hdl : 720 / s_ar s i ≤ 720 := Nat.div_le_self _ _
  have em : ms1 s f i l = (s_ar s i - min (s_ar s i) (x * r)) * (720 / s_ar s i) := by
    unfold ms1
    rw [Nat.mul_comm]
    congr 2
    rw [er1, hfx]
    by_cases z : l < s_lkr s
    · rw [if_pos z, if_pos z]
    · rw [if_neg z, if_neg z, Nat.mul_zero]
  rw [em] at hQ
  refine k_aload_n rfl rfl ?_
  refine k_gI rfl rfl c0 e7 ?_
  refine k_iload_n rfl rfl ?_
  refine k_iload_n rfl rfl ?_
  refine k_imulN rfl ?_
  refine k_minN rfl wd_250 (by omega) (by omega) (Nat.le_of_ble_eq_true rfl) ?_
  refine k_ist3 rfl rfl ?_
  refine k_aload_n rfl rfl ?_
  refine k_gI rfl rfl c0 e7 ?_
  refine k_iload_n rfl rfl ?_
  refine k_isubN rfl (by omega) ?_
  refine k_i2lN rfl (by omega) ?_
  refine k_aload_n rfl rfl ?_
  refine k_gI rfl rfl c0 e8 ?_
  refine k_i2lN rfl (by omega) ?_
  refine k_lmulN rfl ?_
  refine k_lret rfl rfl (Nat.le_refl _) (Nat.le_refl _) ?_
  exact hQ
theorem c_C_missed {g : Gx} {h : Hp} {o d j i : Nat} {s : St} {Q : Option Value → Hp → Prop} (I : Inv s) (B : cB g h o s j i) {ra : Nat} {f : Nat → Nat} (hA : isA g h ra 0 4) (hrow : ∀ l, l < 4 → hp_i h ra l = nI (f l)) (hfb : ∀ l, l < 4 → f l ≤ 20001) (hQ : Q (some (.long (lN (msN s f i)))) h) : Ct g M_C_missed (d + 2) 0 0 [.ref (ca o j), .ref ra, .ref (o + 1)] h Q := by
  obtain ⟨hj, hi, C, A1, e7, e8, ec, er⟩ := id B
  obtain ⟨c0, c1, c2, c3, c4, c5, r0, r1, r2, r3, r4, r5⟩ := id C
  have ha := v_ar I i hi
  have hal := ar_le I hi
  refine ct_of ok_C_missed (by decide) (Nat.le_of_ble_eq_true rfl) [some (.ref (ca o j)), some (.ref ra), some (.ref (o + 1)), none, none, none] rfl rfl ?_
  refine k_lconst (v := lN 1) rfl (by decide) ?_
  refine k_lst3 rfl rfl ?_
  refine k_iconst (v := nI 0) rfl (by decide) ?_
  refine k_ist5 rfl rfl ?_
  suffices H : ∀ (q l : Nat), l + q = 4 → Om g M_C_missed (d + 2) Q h 5 [some (.ref (ca o j)), some (.ref ra), some (.ref (o + 1)), some (.long (lN (msP s f i l))), none, some (.int (nI l))] [] from H 4 0 rfl
  intro q
  induction q with
  | zero =>
    intro l hl
    have el : l = 4 := by omega
    subst el
    refine k_iload rfl rfl ?_
    refine k_iconst (v := nI 4) rfl (by decide) ?_
    refine kn_ge rfl (by omega) (by omega) (fun c8 => ?_) (fun c8 => ?_)
    · refine k_lload_n rfl rfl ?_
      refine k_lret rfl rfl (Nat.le_refl _) (Nat.le_refl _) ?_
      exact hQ
    · exact absurd c8 (by omega)
  | succ q ih =>
    intro l hl
    refine k_iload rfl rfl ?_
    refine k_iconst (v := nI 4) rfl (by decide) ?_
    refine kn_ge rfl (by omega) (by omega) (fun c8 => ?_) (fun c8 => ?_)
    · exact absurd c8 (by omega)
    · refine k_lload_n rfl rfl ?_
      refine k_aload_n rfl rfl ?_
      refine k_aload_n rfl rfl ?_
      refine k_iload rfl rfl ?_
      refine k_iA rfl A1 rfl (by omega) (by decide) (er l (by omega)) ?_
      refine k_aload_n rfl rfl ?_
      refine k_iload rfl rfl ?_
      refine k_iA rfl hA rfl (by omega) (by decide) (hrow l (by omega)) ?_
      refine k_cV2 rfl cw_C_missedBy wd_246 c0 rfl (by decide) (Nat.le_of_ble_eq_true rfl) ?_
      refine c_C_missedBy (f := f) I B rfl (hfb l (by omega)) rfl ?_
      refine k_lmulN rfl ?_
      refine k_lst3 rfl rfl ?_
      refine k_incN5 rfl rfl ?_
      refine k_goto rfl ?_
      exact ih (l + 1) (by omega)
def fdN (s : St) (f : Nat → Nat) (i : Nat) : Nat := wtN s i * (268738560000 - msN s f i)
theorem c_C_finds {g : Gx} {h : Hp} {o d j i : Nat} {s : St} {Q : Option Value → Hp → Prop} (I : Inv s) (B : cB g h o s j i) {ra : Nat} {f : Nat → Nat} (hA : isA g h ra 0 4) (hrow : ∀ l, l < 4 → hp_i h ra l = nI (f l)) (hfb : ∀ l, l < 4 → f l ≤ 20001) (hQ : Q (some (.long (lN (fdN s f i)))) h) : Ct g M_C_finds (d + 3) 0 0 [.ref (ca o j), .ref ra, .ref (o + 1)] h Q := by
  obtain ⟨hj, hi, C, A1, e7, e8, ec, er⟩ := id B
  obtain ⟨c0, c1, c2, c3, c4, c5, r0, r1, r2, r3, r4, r5⟩ := id C
  have ha := v_ar I i hi
  have hal := ar_le I hi
  refine ct_of ok_C_finds (by decide) (Nat.le_of_ble_eq_true rfl) [some (.ref (ca o j)), some (.ref ra), some (.ref (o + 1))] rfl rfl ?_
  refine k_aload_n rfl rfl ?_
  refine k_cV0 rfl cw_C_weight wd_237 c0 rfl (by decide) (Nat.le_of_ble_eq_true rfl) ?_
  refine c_C_weight I B ?_
  refine k_ldc2 rfl wd_241 ?_
  rw [lN_W]
  refine k_aload_n rfl rfl ?_
  refine k_aload_n rfl rfl ?_
  refine k_aload_n rfl rfl ?_
  refine k_cV2 rfl cw_C_missed wd_242 c0 rfl (by decide) (Nat.le_of_ble_eq_true rfl) ?_
  refine c_C_missed (f := f) I B hA hrow hfb ?_
  refine k_lsubN rfl (msN_le _ _ _) ?_
  refine k_lmulN rfl ?_
  refine k_lret rfl rfl (Nat.le_refl _) (Nat.le_refl _) ?_
  exact hQ
theorem c_C_remains {g : Gx} {h : Hp} {o d j i : Nat} {s : St} {Q : Option Value → Hp → Prop} (I : Inv s) (B : cB g h o s j i) (hld : ∀ l, l < 4 → hp_i h (ca o j + 3) l = nI (s_ld s l i)) (hQ : Q (some (.long (lN (m0 s i)))) h) : Ct g M_C_remains (d + 3) 0 0 [.ref (ca o j), .ref (o + 1)] h Q := by
  obtain ⟨hj, hi, C, A1, e7, e8, ec, er⟩ := id B
  obtain ⟨c0, c1, c2, c3, c4, c5, r0, r1, r2, r3, r4, r5⟩ := id C
  have ha := v_ar I i hi
  have hal := ar_le I hi
  refine ct_of ok_C_remains (by decide) (Nat.le_of_ble_eq_true rfl) [some (.ref (ca o j)), some (.ref (o + 1))] rfl rfl ?_
  have bK := v_lks I
  have hct := v_cn I 0 i (by decide) hi
  refine k_aload_n rfl rfl ?_
  refine k_getR rfl rfl c0 r1 ?_
  refine k_iconst (v := nI 0) rfl (by decide) ?_
  refine k_iA rfl c1 (j := 0) rfl (by decide) (by decide) (ec 0 (by decide)) ?_
  refine k_i2lN rfl (by omega) ?_
  refine k_aload_n rfl rfl ?_
  refine k_aload_n rfl rfl ?_
  refine k_getR rfl rfl c0 r3 ?_
  refine k_aload_n rfl rfl ?_
  refine k_cV2 rfl cw_C_missed wd_242 c0 rfl (by decide) (Nat.le_of_ble_eq_true rfl) ?_
  refine c_C_missed (f := fun l => s_ld s l i) I B c3 hld (fun l hl => by have := v_ld I l i hl hi; omega) ?_
  refine k_lmulN rfl ?_
  refine k_lret rfl rfl (Nat.le_refl _) (Nat.le_refl _) ?_
  exact hQ
theorem c_S_allCounts {g : Gx} {h : Hp} {o d : Nat} {p : Nat → Nat} {s : St} {Q : Option Value → Hp → Prop} (P : PC g h o p s) (I : Inv s) (hQ : Q (some (.long (lN (alN s (s_told s))))) h) : Ct g M_S_allCounts (d) 0 0 [.ref o] h Q := by
  have S := pc_S P
  have bT := v_told I
  have bL := v_lkr I
  refine ct_of ok_S_allCounts (by decide) (Nat.le_of_ble_eq_true rfl) [some (.ref o), none, none, none] rfl rfl ?_
  refine k_lconst (v := lN 0) rfl (by decide) ?_
  refine k_lst1 rfl rfl ?_
  refine k_iconst (v := nI 0) rfl (by decide) ?_
  refine k_ist3 rfl rfl ?_
  suffices H : ∀ (q i : Nat), i + q = s_told s → Om g M_S_allCounts (d) Q h 4 [some (.ref o), some (.long (lN (alN s i))), none, some (.int (nI i))] [] from H _ 0 (Nat.zero_add _)
  intro q
  induction q with
  | zero =>
    intro i hi
    have ei : i = s_told s := by omega
    refine k_iload_n rfl rfl ?_
    refine k_aload_n rfl rfl ?_
    refine k_gI rfl rfl (sc_o S) (pc_told P) ?_
    refine kn_ge rfl (by omega) (by omega) (fun c9 => ?_) (fun c9 => ?_)
    · refine k_lload_n rfl rfl ?_
      refine k_lret rfl rfl (Nat.le_refl _) (Nat.le_refl _) ?_
      rw [ei]; exact hQ
    · exact absurd c9 (by omega)
  | succ q ih =>
    intro i hi
    have hk : i < s_told s := by omega
    have hpi := (pc_m P).1 i (by omega)
    refine k_iload_n rfl rfl ?_
    refine k_aload_n rfl rfl ?_
    refine k_gI rfl rfl (sc_o S) (pc_told P) ?_
    refine kn_ge rfl (by omega) (by omega) (fun c9 => ?_) (fun c9 => ?_)
    · exact absurd c9 (by omega)
    · refine k_lload_n rfl rfl ?_
      refine k_aload_n rfl rfl ?_
      refine k_getR rfl rfl (sc_o S) (sc_told S) ?_
      refine k_iload_n rfl rfl ?_
      refine k_aald (q := ca o (p i)) rfl (sc_a2 S) rfl (by decide) rfl (by omega) (by decide) (pc_r P i (by omega)) ?_
      refine k_getR rfl rfl (sc_c S (p i) hpi).1 (sc_c S (p i) hpi).2.2.2.2.2.2.2.1 ?_
      refine k_iconst (v := nI 0) rfl (by decide) ?_
      refine k_iA rfl (sc_c S (p i) hpi).2.1 (j := 0) rfl (by decide) (by decide) ((pc_t P i hk).2.2.2.1 0 (by decide)) ?_
      refine k_i2lN rfl (by have := v_cn I 0 i (by decide) hk; omega) ?_
      refine k_laddN rfl ?_
      refine k_lst1 rfl rfl ?_
      refine k_incN3 rfl rfl ?_
      refine k_goto rfl ?_
      exact ih (i + 1) (by omega)
theorem c_S_allRemains {g : Gx} {h : Hp} {o d : Nat} {p : Nat → Nat} {s : St} {Q : Option Value → Hp → Prop} (P : PC g h o p s) (I : Inv s) (hQ : Q (some (.long (lN (lfN s (s_told s))))) h) : Ct g M_S_allRemains (d + 4) 0 0 [.ref o] h Q := by
  have S := pc_S P
  have bT := v_told I
  have bL := v_lkr I
  refine ct_of ok_S_allRemains (by decide) (Nat.le_of_ble_eq_true rfl) [some (.ref o), none, none, none] rfl rfl ?_
  refine k_lconst (v := lN 0) rfl (by decide) ?_
  refine k_lst1 rfl rfl ?_
  refine k_iconst (v := nI 0) rfl (by decide) ?_
  refine k_ist3 rfl rfl ?_
  suffices H : ∀ (q i : Nat), i + q = s_told s → Om g M_S_allRemains (d + 4) Q h 4 [some (.ref o), some (.long (lN (lfN s i))), none, some (.int (nI i))] [] from H _ 0 (Nat.zero_add _)
  intro q
  induction q with
  | zero =>
    intro i hi
    have ei : i = s_told s := by omega
    refine k_iload_n rfl rfl ?_
    refine k_aload_n rfl rfl ?_
    refine k_gI rfl rfl (sc_o S) (pc_told P) ?_
    refine kn_ge rfl (by omega) (by omega) (fun c9 => ?_) (fun c9 => ?_)
    · refine k_lload_n rfl rfl ?_
      refine k_lret rfl rfl (Nat.le_refl _) (Nat.le_refl _) ?_
      rw [ei]; exact hQ
    · exact absurd c9 (by omega)
  | succ q ih =>
    intro i hi
    have hk : i < s_told s := by omega
    have hpi := (pc_m P).1 i (by omega)
    refine k_iload_n rfl rfl ?_
    refine k_aload_n rfl rfl ?_
    refine k_gI rfl rfl (sc_o S) (pc_told P) ?_
    refine kn_ge rfl (by omega) (by omega) (fun c9 => ?_) (fun c9 => ?_)
    · exact absurd c9 (by omega)
    · refine k_lload_n rfl rfl ?_
      refine k_aload_n rfl rfl ?_
      refine k_getR rfl rfl (sc_o S) (sc_told S) ?_
      refine k_iload_n rfl rfl ?_
      refine k_aald (q := ca o (p i)) rfl (sc_a2 S) rfl (by decide) rfl (by omega) (by decide) (pc_r P i (by omega)) ?_
      refine k_aload_n rfl rfl ?_
      refine k_getR rfl rfl (sc_o S) (sc_rates S) ?_
      refine k_cVN1 rfl cw_C_remains (nsM (i := 8) rfl) (sc_c S (p i) hpi).1 rfl (by decide) (Nat.le_of_ble_eq_true rfl) ?_
      refine c_C_remains I (cB_of P hk) (pc_t P i hk).2.2.2.2.2 ?_
      refine k_laddN rfl ?_
      refine k_lst1 rfl rfl ?_
      refine k_incN3 rfl rfl ?_
      refine k_goto rfl ?_
      exact ih (i + 1) (by omega)
