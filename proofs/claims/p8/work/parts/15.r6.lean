def LN (x : Int64) : Nat := x.toInt.toNat
theorem LN_of {x : Int64} (h : ¬ x < 0) : x = lN (LN x) ∧ LN x < 2 ^ 63 := by
  obtain ⟨k, h1, h2⟩ := pk_lOf h
  subst h2
  have h3 : LN (lN k) = k := by unfold LN; rw [pk_lT h1]; rfl
  rw [h3]
  exact ⟨rfl, h1⟩
theorem LN_le {x : Int64} {b : Nat} (h : ¬ x < 0) (hb : b < 2 ^ 63) (h2 : ¬ lN b < x) : LN x ≤ b := by
  obtain ⟨h3, h4⟩ := LN_of h
  rw [h3] at h2
  exact Nat.not_lt.mp (fun z => h2 ((pk_lLT hb h4).mpr z))
theorem LN_ge {x : Int64} {b : Nat} (hb : b < 2 ^ 63) (h0 : ¬ x < 0) (h2 : ¬ x < lN b) : b ≤ LN x := by
  obtain ⟨h3, h4⟩ := LN_of h0
  rw [h3] at h2
  exact Nat.not_lt.mp (fun z => h2 ((pk_lLT h4 hb).mpr z))
theorem nneg {x : Int64} {b : Nat} (hb : b < 2 ^ 63) (h : ¬ x < lN b) : ¬ x < 0 := fun z => h (by
  rw [Int64.lt_iff_toInt_lt] at z ⊢
  rw [pk_lT hb]
  have h0 : (0 : Int64).toInt = 0 := by decide
  omega)
/-- one more thing -/
def thS (s : St) : Int32 × St := if s_things s = 4 then (-1, s) else (nI (s_things s), zeroP (w_things s (s_things s + 1)))
def spS (s : St) (a b : Int64) : Bool × St := if a < 0 ∨ b < a ∨ b < 1 ∨ 100 < b then (false, s) else (true, zeroP (w_bl (w_ab s (LN a)) (LN b)))
def bdU (s : St) (l f t : Nat) : Nat → Nat → Bool := fun l1 q => s_bd s l1 q || (decide (l1 = l) && decide (f ≤ q) && decide (q < t))
def rsS (s : St) (l f t : Int32) : Bool × St := cond (isc (nI (s_lkr s)) l && decide (0 ≤ f) && decide (f < t) && decide (t ≤ nI 24)) (true, zeroP (w_bd s (bdU s l.toNatClampNeg f.toNatClampNeg t.toNatClampNeg))) (false, s)
def brS (s : St) (l q : Int32) : Bool × St := cond (isc (nI 24) q) (rsS s l q (q + 1)) (false, s)
def seS (s : St) (c b : Int32) : Bool × St := match plS s c with
  | none => (false, s)
  | some k => cond (isc (nI (s_lkr s)) b && (s_seen s).isNone && !(decide (s_ld s b.toNatClampNeg k = 0)) && !(decide (s_cn s 0 k = 0))) (true, zeroP (w_seen s (some (s_num s k)))) (false, s)
def lrS (s : St) (a b : Int64) (q : Int32) : Int32 × St := if s_lkr s = 4 ∨ 0 < s_lks s ∨ a < 1 ∨ 1000 < a ∨ b < 1 ∨ 1000 < b ∨ 1000 < a * b ∨ q < 1 ∨ 24 < q then (-1, s) else (nI (s_lkr s), zeroP (w_lkr (w_hr (w_rt s (va_up (s_rt s) (s_lkr s) (LN a * LN b))) (va_up (s_hr s) (s_lkr s) q.toNatClampNeg)) (s_lkr s + 1)))
def ldU (s : St) (l k x : Nat) : Nat → Nat → Nat := fun l1 k1 => if l1 = l ∧ k1 = k then s_ld s l1 k1 + x else s_ld s l1 k1
def lkT (s : St) (l k q t : Nat) : St := (s_cells s, s_told s, s_num s, s_ar s, s_cn s, s_things s, s_lkr s, s_rt s, s_hr s, s_bd s, s_pl s, ldU s l k q, s_lks s + 1, va_up (s_gl s) (s_lks s) l, va_up (s_gc s) (s_lks s) (s_num s k), va_up (s_gh s) (s_lks s) q, va_up (s_gt s) (s_lks s) t, s_seen s, s_ab s, s_bl s)
def lkS (s : St) (l c : Int32) (q t : Int64) : Int32 × St := match plS s c with
  | none => (-1, s)
  | some k => if isc (nI (s_lkr s)) l = false ∨ s_seen s ≠ none ∨ s_lks s = 200 ∨ q < 1 ∨ 100 < q ∨ t < 0 then (-1, s) else
    (nI (s_lks s), lkT s l.toNatClampNeg k (LN q) (LN t))
theorem lN1 : (1 : Int64) = lN 1 := by decide +kernel
theorem lN0 : (0 : Int64) = lN 0 := by decide +kernel
theorem lN1000 : (1000 : Int64) = lN 1000 := by decide +kernel
theorem lN100 : (100 : Int64) = lN 100 := by decide +kernel
theorem n24 : (24 : Int32) = nI 24 := by decide +kernel
theorem c_R_thing {g : Gx} {h : Hp} {m d : Nat} {s : St} {Q : Option Value → Hp → Prop} (P : PR g h m s) (I : Inv s) (hQ : ∀ h1, hp_fr (inR m) h h1 → PR g h1 m (thS s).2 → Q (some (.int ((thS s).1))) h1) : Ct g M_R_thing (d + 1) 0 0 [.ref m] h Q := by
  have S := pr_S P
  have bT := v_told I
  have bL := v_lkr I
  refine ct_of ok_R_thing (by decide) (Nat.le_of_ble_eq_true rfl) [some (.ref m)] rfl rfl ?_
  have bt := v_things I
  unfold thS at hQ
  refine k_aload_n rfl rfl ?_
  refine k_gI rfl rfl (sr_o S) (pr_things P) ?_
  refine k_iconst (v := nI 4) rfl (by decide) ?_
  refine kn_ne rfl (by omega) (by omega) (fun c5 => ?_) (fun c5 => ?_)
  · rw [if_neg c5] at hQ
    refine k_aload_n rfl rfl ?_
    refine k_dup rfl rfl ?_
    refine k_gI rfl rfl (sr_o S) (pr_things P) ?_
    refine k_iconst (v := nI 1) rfl (by decide) ?_
    refine k_iaddN rfl ?_
    refine k_putI rfl rfl rfl (sr_o S) ?_
    have P1 : PR g (hp_ui h m 5 (nI (s_things s + 1))) m (w_things s (s_things s + 1)) := ⟨S, ((by simp only [i_ui, j_ui, i_uj, j_uj]; (repeat rw [if_neg (by omega)]); exact pr_cells (s := s) P)), ((by simp only [i_ui, j_ui, i_uj, j_uj]; (repeat rw [if_neg (by omega)]); exact pr_told (s := s) P)), (fun k z => (by simp only [i_ui, j_ui, i_uj, j_uj]; (repeat rw [if_neg (by omega)]); exact pr_num (s := s) P k z)), (fun k z => (by simp only [i_ui, j_ui, i_uj, j_uj]; (repeat rw [if_neg (by omega)]); exact pr_ar (s := s) P k z)), (fun t k z y => (by simp only [i_ui, j_ui, i_uj, j_uj]; (repeat rw [if_neg (by omega)]); exact pr_cn (s := s) P t k z y)), (by rw [i_ui, if_pos ⟨rfl, rfl⟩]; rfl), ((by simp only [i_ui, j_ui, i_uj, j_uj]; (repeat rw [if_neg (by omega)]); exact pr_lkr (s := s) P)), (fun k z => (by simp only [i_ui, j_ui, i_uj, j_uj]; (repeat rw [if_neg (by omega)]); exact pr_rt (s := s) P k z)), (fun k z => (by simp only [i_ui, j_ui, i_uj, j_uj]; (repeat rw [if_neg (by omega)]); exact pr_hr (s := s) P k z)), (fun t k z y => (by simp only [i_ui, j_ui, i_uj, j_uj]; (repeat rw [if_neg (by omega)]); exact pr_bd (s := s) P t k z y)), (fun t k z y => (by simp only [i_ui, j_ui, i_uj, j_uj]; (repeat rw [if_neg (by omega)]); exact pr_pl (s := s) P t k z y)), (fun t k z y => (by simp only [i_ui, j_ui, i_uj, j_uj]; (repeat rw [if_neg (by omega)]); exact pr_ld (s := s) P t k z y)), ((by simp only [i_ui, j_ui, i_uj, j_uj]; (repeat rw [if_neg (by omega)]); exact pr_lks (s := s) P)), (fun k z => (by simp only [i_ui, j_ui, i_uj, j_uj]; (repeat rw [if_neg (by omega)]); exact pr_gl (s := s) P k z)), (fun k z => (by simp only [i_ui, j_ui, i_uj, j_uj]; (repeat rw [if_neg (by omega)]); exact pr_gc (s := s) P k z)), (fun k z => (by simp only [i_ui, j_ui, i_uj, j_uj]; (repeat rw [if_neg (by omega)]); exact pr_gh (s := s) P k z)), (fun k z => (by simp only [i_ui, j_ui, i_uj, j_uj]; (repeat rw [if_neg (by omega)]); exact pr_gt (s := s) P k z)), ((by simp only [i_ui, j_ui, i_uj, j_uj]; (repeat rw [if_neg (by omega)]); exact pr_seen (s := s) P)), ((by simp only [i_ui, j_ui, i_uj, j_uj]; (repeat rw [if_neg (by omega)]); exact pr_ab (s := s) P)), ((by simp only [i_ui, j_ui, i_uj, j_uj]; (repeat rw [if_neg (by omega)]); exact pr_bl (s := s) P))⟩
    have x1 : hp_fr (inR m) h (hp_ui h m 5 (nI (s_things s + 1))) := fr_ui ⟨by omega, by omega⟩
    refine k_aload_n rfl rfl ?_
    refine k_cV0 rfl cw_R_changed wd_467 (sr_o S) rfl (by decide) (Nat.le_of_ble_eq_true rfl) ?_
    refine c_R_changed P1 (fun h2 x2 P2 => ?_)
    refine k_aload_n rfl rfl ?_
    refine k_gI (x := nI (s_things s + 1)) rfl rfl (sr_o (pr_S P2)) (pr_things P2) ?_
    refine k_iconst (v := nI 1) rfl (by decide) ?_
    refine k_isubN rfl (by omega) ?_
    refine k_iret rfl rfl (Nat.le_refl _) (Nat.le_refl _) ?_
    exact hQ h2 (fr_tr x1 x2) P2
  · rw [if_pos c5] at hQ
    refine k_iconst (v := -1) rfl (by decide) ?_
    refine k_iret rfl rfl (Nat.le_refl _) (Nat.le_refl _) ?_
    exact hQ h fr_rf P
theorem c_R_stop {g : Gx} {h : Hp} {m d : Nat} {s : St} {Q : Option Value → Hp → Prop} (P : PR g h m s) (I : Inv s) (a b : Int64) (hQ : ∀ h1, hp_fr (inR m) h h1 → PR g h1 m (spS s a b).2 → Q (some (.int (bI (spS s a b).1))) h1) : Ct g M_R_stop (d + 1) 0 0 [.ref m, .long a, .long b] h Q := by
  have S := pr_S P
  have bT := v_told I
  have bL := v_lkr I
  refine ct_of ok_R_stop (by decide) (Nat.le_of_ble_eq_true rfl) [some (.ref m), some (.long a), none, some (.long b), none] rfl rfl ?_
  unfold spS at hQ
  refine k_lload_n rfl rfl ?_
  refine k_lconst (v := 0) rfl (by decide) ?_
  refine kl_lt rfl rfl (fun c2 => ?_) (fun c2 => ?_)
  · refine k_iconst (v := nI 0) rfl (by decide) ?_
    refine k_zret rfl rfl (by decide) (Nat.le_refl _) (Nat.le_refl _) ?_
    rw [if_pos (Or.inl c2)] at hQ; exact hQ h fr_rf P
  · refine k_lload_n rfl rfl ?_
    refine k_lload_n rfl rfl ?_
    refine kl_gt rfl rfl (fun c8 => ?_) (fun c8 => ?_)
    · refine k_iconst (v := nI 0) rfl (by decide) ?_
      refine k_zret rfl rfl (by decide) (Nat.le_refl _) (Nat.le_refl _) ?_
      rw [if_pos (Or.inr (Or.inl c8))] at hQ; exact hQ h fr_rf P
    · refine k_lload_n rfl rfl ?_
      refine k_lconst (v := 1) rfl (by decide) ?_
      refine kl_lt rfl rfl (fun c14 => ?_) (fun c14 => ?_)
      · refine k_iconst (v := nI 0) rfl (by decide) ?_
        refine k_zret rfl rfl (by decide) (Nat.le_refl _) (Nat.le_refl _) ?_
        rw [if_pos (Or.inr (Or.inr (Or.inl c14)))] at hQ; exact hQ h fr_rf P
      · refine k_lload_n rfl rfl ?_
        refine k_ldc2 rfl wd_502 ?_
        refine kl_le rfl rfl (fun c22 => ?_) (fun c22 => ?_)
        · refine k_aload_n rfl rfl ?_
          refine k_lload_n rfl rfl ?_
          refine k_putL rfl rfl rfl (sr_o S) ?_
          refine k_aload_n rfl rfl ?_
          refine k_lload_n rfl rfl ?_
          refine k_putL rfl rfl rfl (sr_o S) ?_
          have P1 : PR g (hp_uj (hp_uj h m 19 a) m 20 b) m (w_bl (w_ab s (LN a)) (LN b)) := ⟨S, ((by simp only [i_ui, j_ui, i_uj, j_uj]; (repeat rw [if_neg (by omega)]); exact pr_cells (s := s) P)), ((by simp only [i_ui, j_ui, i_uj, j_uj]; (repeat rw [if_neg (by omega)]); exact pr_told (s := s) P)), (fun k z => (by simp only [i_ui, j_ui, i_uj, j_uj]; (repeat rw [if_neg (by omega)]); exact pr_num (s := s) P k z)), (fun k z => (by simp only [i_ui, j_ui, i_uj, j_uj]; (repeat rw [if_neg (by omega)]); exact pr_ar (s := s) P k z)), (fun t k z y => (by simp only [i_ui, j_ui, i_uj, j_uj]; (repeat rw [if_neg (by omega)]); exact pr_cn (s := s) P t k z y)), ((by simp only [i_ui, j_ui, i_uj, j_uj]; (repeat rw [if_neg (by omega)]); exact pr_things (s := s) P)), ((by simp only [i_ui, j_ui, i_uj, j_uj]; (repeat rw [if_neg (by omega)]); exact pr_lkr (s := s) P)), (fun k z => (by simp only [i_ui, j_ui, i_uj, j_uj]; (repeat rw [if_neg (by omega)]); exact pr_rt (s := s) P k z)), (fun k z => (by simp only [i_ui, j_ui, i_uj, j_uj]; (repeat rw [if_neg (by omega)]); exact pr_hr (s := s) P k z)), (fun t k z y => (by simp only [i_ui, j_ui, i_uj, j_uj]; (repeat rw [if_neg (by omega)]); exact pr_bd (s := s) P t k z y)), (fun t k z y => (by simp only [i_ui, j_ui, i_uj, j_uj]; (repeat rw [if_neg (by omega)]); exact pr_pl (s := s) P t k z y)), (fun t k z y => (by simp only [i_ui, j_ui, i_uj, j_uj]; (repeat rw [if_neg (by omega)]); exact pr_ld (s := s) P t k z y)), ((by simp only [i_ui, j_ui, i_uj, j_uj]; (repeat rw [if_neg (by omega)]); exact pr_lks (s := s) P)), (fun k z => (by simp only [i_ui, j_ui, i_uj, j_uj]; (repeat rw [if_neg (by omega)]); exact pr_gl (s := s) P k z)), (fun k z => (by simp only [i_ui, j_ui, i_uj, j_uj]; (repeat rw [if_neg (by omega)]); exact pr_gc (s := s) P k z)), (fun k z => (by simp only [i_ui, j_ui, i_uj, j_uj]; (repeat rw [if_neg (by omega)]); exact pr_gh (s := s) P k z)), (fun k z => (by simp only [i_ui, j_ui, i_uj, j_uj]; (repeat rw [if_neg (by omega)]); exact pr_gt (s := s) P k z)), ((by simp only [i_ui, j_ui, i_uj, j_uj]; (repeat rw [if_neg (by omega)]); exact pr_seen (s := s) P)), (by rw [j_uj, if_neg (by omega), j_uj, if_pos ⟨rfl, rfl⟩]; exact (LN_of c2).1), (by rw [j_uj, if_pos ⟨rfl, rfl⟩]; exact (LN_of (fun z => c14 (Int64.lt_trans z (by decide)))).1)⟩
          have x1 : hp_fr (inR m) h (hp_uj (hp_uj h m 19 a) m 20 b) := fr_tr (fr_uj ⟨by omega, by omega⟩) (fr_uj ⟨by omega, by omega⟩)
          refine k_aload_n rfl rfl ?_
          refine k_cV0 rfl cw_R_changed wd_467 (sr_o S) rfl (by decide) (Nat.le_of_ble_eq_true rfl) ?_
          refine c_R_changed P1 (fun h2 x2 P2 => ?_)
          refine k_iconst (v := nI 1) rfl (by decide) ?_
          refine k_zret rfl rfl (by decide) (Nat.le_refl _) (Nat.le_refl _) ?_
          rw [if_neg (fun z => z.elim c2 (fun z => z.elim c8 (fun z => z.elim c14 (fun z => absurd c22 (Int64.not_le.mpr z)))))] at hQ
          exact hQ h2 (fr_tr x1 x2) P2
        · refine k_iconst (v := nI 0) rfl (by decide) ?_
          refine k_zret rfl rfl (by decide) (Nat.le_refl _) (Nat.le_refl _) ?_
          rw [if_pos (Or.inr (Or.inr (Or.inr (Int64.not_le.mp c22))))] at hQ; exact hQ h fr_rf P
theorem c_R_rest {g : Gx} {h : Hp} {m d : Nat} {s : St} {Q : Option Value → Hp → Prop} (P : PR g h m s) (I : Inv s) (l f t : Int32) (hQ : ∀ h1, hp_fr (inR m) h h1 → PR g h1 m (rsS s l f t).2 → Q (some (.int (bI (rsS s l f t).1))) h1) : Ct g M_R_rest (d + 1) 0 0 [.ref m, .int l, .int f, .int t] h Q := by
  have S := pr_S P
  have bT := v_told I
  have bL := v_lkr I
  refine ct_of ok_R_rest (by decide) (Nat.le_of_ble_eq_true rfl) [some (.ref m), some (.int l), some (.int f), some (.int t), none] rfl rfl ?_
  unfold rsS at hQ
  refine k_aload_n rfl rfl ?_
  refine k_iload_n rfl rfl ?_
  refine k_cV1 rfl cw_R_isLooker wd_484 (sr_o S) rfl (by decide) (Nat.le_of_ble_eq_true rfl) ?_
  refine c_R_isLooker P I l ?_
  refine kb_eq rfl (fun c5 => ?_) (fun c5 => ?_)
  · refine k_iconst (v := nI 0) rfl (by decide) ?_
    refine k_zret rfl rfl (by decide) (Nat.le_refl _) (Nat.le_refl _) ?_
    rw [c5] at hQ; exact hQ h fr_rf P
  · refine k_iload_n rfl rfl ?_
    refine k_if_lt rfl (fun c9 => ?_) (fun c9 => ?_)
    · refine k_iconst (v := nI 0) rfl (by decide) ?_
      refine k_zret rfl rfl (by decide) (Nat.le_refl _) (Nat.le_refl _) ?_
      rw [decide_eq_false (Int32.not_le.mpr c9), Bool.and_false] at hQ; exact hQ h fr_rf P
    · refine k_iload_n rfl rfl ?_
      refine k_iload_n rfl rfl ?_
      refine k_icmp_ge rfl (fun c14 => ?_) (fun c14 => ?_)
      · refine k_iconst (v := nI 0) rfl (by decide) ?_
        refine k_zret rfl rfl (by decide) (Nat.le_refl _) (Nat.le_refl _) ?_
        rw [decide_eq_false (Int32.not_lt.mpr c14), Bool.and_false] at hQ; exact hQ h fr_rf P
      · have c14' : f < t := Int32.not_le.mp c14
        refine k_iload_n rfl rfl ?_
        refine k_bipush (v := nI 24) rfl (by decide) ?_
        refine k_icmp_le rfl (fun c20 => ?_) (fun c20 => ?_)
        · refine k_iload_n rfl rfl ?_
          refine k_ist4 rfl rfl ?_
          obtain ⟨l0, hl0, el, ecl⟩ := isc_of (by omega) c5
          obtain ⟨f0, hf0, ef⟩ := nI_of c9
          obtain ⟨t0, ht0, et⟩ := nI_of (x := t) (fun z => c9 (Int32.lt_trans c14' z))
          subst el ef et
          have ft : f0 < t0 := (nI_ltI hf0 ht0).mp c14'
          have t24 : t0 ≤ 24 := (nI_leI ht0 (by decide)).mp c20
          rw [c5, decide_eq_true (Int32.not_lt.mp c9), decide_eq_true c14', decide_eq_true c20, ecl, nI_clamp hf0, nI_clamp ht0] at hQ
          simp only [Bool.and_self, cond_true] at hQ
          suffices H : ∀ (q i : Nat) (h1 : Hp), i + q = t0 → f0 ≤ i → hp_fr (fun a => a = m + 6) h h1 → hp_r h1 = hp_r h → (∀ j, hp_i h1 (m + 6) j = if 24 * l0 + f0 ≤ j ∧ j < 24 * l0 + i then 1 else hp_i h (m + 6) j) → Om g M_R_rest (d + 1) Q h1 28 [some (.ref m), some (.int (nI l0)), some (.int (nI f0)), some (.int (nI t0)), some (.int (nI i))] [] from H (t0 - f0) f0 h (by omega) (Nat.le_refl _) fr_rf rfl (fun j => by rw [if_neg (by omega)])
          intro q
          induction q with
          | zero =>
            intro i h1 hi hfi hF hr hz
            have ei : i = t0 := by omega
            subst ei
            have S1 := sr_fr S hF (by rw [hr])
            have hi' : ∀ a, a ≠ m + 6 → ∀ j, hp_i h1 a j = hp_i h a j := fun a ha j => fr_i hF ha j
            have hj' : ∀ a, a ≠ m + 6 → ∀ j, hp_j h1 a j = hp_j h a j := fun a ha j => fr_j hF ha j
            have P1 : PR g h1 m (w_bd s (bdU s l0 f0 i)) := ⟨S1, ((hi' _ (by omega) _).trans (pr_cells (s := s) P)), ((hi' _ (by omega) _).trans (pr_told (s := s) P)), (fun k z => (hi' _ (by omega) _).trans (pr_num (s := s) P k z)), (fun k z => (hi' _ (by omega) _).trans (pr_ar (s := s) P k z)), (fun t k z y => (hi' _ (by omega) _).trans (pr_cn (s := s) P t k z y)), ((hi' _ (by omega) _).trans (pr_things (s := s) P)), ((hi' _ (by omega) _).trans (pr_lkr (s := s) P)), (fun k z => (hi' _ (by omega) _).trans (pr_rt (s := s) P k z)), (fun k z => (hi' _ (by omega) _).trans (pr_hr (s := s) P k z)), (fun l1 q z y => by
              rw [hz]
              show _ = bI (s_bd s l1 q || (decide (l1 = l0) && decide (f0 ≤ q) && decide (q < i)))
              by_cases e : l1 = l0 ∧ f0 ≤ q ∧ q < i
              · rw [if_pos (by omega), decide_eq_true e.1, decide_eq_true e.2.1, decide_eq_true e.2.2]
                simp only [Bool.and_self, Bool.or_true]; rfl
              · rw [if_neg (by omega), pr_bd P l1 q z y]
                have e2 : (decide (l1 = l0) && decide (f0 ≤ q) && decide (q < i)) = false := by
                  simp only [Bool.and_eq_false_iff, decide_eq_false_iff_not]; omega
                rw [e2, Bool.or_false]), (fun t k z y => (hi' _ (by omega) _).trans (pr_pl (s := s) P t k z y)), (fun t k z y => (hi' _ (by omega) _).trans (pr_ld (s := s) P t k z y)), ((hi' _ (by omega) _).trans (pr_lks (s := s) P)), (fun k z => (hi' _ (by omega) _).trans (pr_gl (s := s) P k z)), (fun k z => (hi' _ (by omega) _).trans (pr_gc (s := s) P k z)), (fun k z => (hi' _ (by omega) _).trans (pr_gh (s := s) P k z)), (fun k z => (hj' _ (by omega) _).trans (pr_gt (s := s) P k z)), ((hi' _ (by omega) _).trans (pr_seen (s := s) P)), ((hj' _ (by omega) _).trans (pr_ab (s := s) P)), ((hj' _ (by omega) _).trans (pr_bl (s := s) P))⟩
            have x1 : hp_fr (inR m) h h1 := fr_mono hF (fun a e => ⟨by omega, by omega⟩)
            refine k_iload rfl rfl ?_
            refine k_iload_n rfl rfl ?_
            refine kn_ge rfl (by omega) (by omega) (fun c31 => ?_) (fun c31 => ?_)
            · refine k_aload_n rfl rfl ?_
              refine k_cV0 rfl cw_R_changed wd_467 (sr_o S1) rfl (by decide) (Nat.le_of_ble_eq_true rfl) ?_
              refine c_R_changed P1 (fun h2 x2 P2 => ?_)
              refine k_iconst (v := nI 1) rfl (by decide) ?_
              refine k_zret rfl rfl (by decide) (Nat.le_refl _) (Nat.le_refl _) ?_
              exact hQ h2 (fr_tr x1 x2) P2
            · exact absurd c31 (by omega)
          | succ q ih =>
            intro i h1 hi hfi hF hr hz
            have S1 := sr_fr S hF (by rw [hr])
            refine k_iload rfl rfl ?_
            refine k_iload_n rfl rfl ?_
            refine kn_ge rfl (by omega) (by omega) (fun c31 => ?_) (fun c31 => ?_)
            · exact absurd c31 (by omega)
            · refine k_aload_n rfl rfl ?_
              refine k_getR rfl rfl (sr_o S1) (sr_barred S1) ?_
              refine k_bipush (v := nI 24) rfl (by decide) ?_
              refine k_iload_n rfl rfl ?_
              refine k_imul rfl ?_
              refine k_iload rfl rfl ?_
              refine k_iadd rfl ?_
              refine k_iconst (v := nI 1) rfl (by decide) ?_
              refine k_zS rfl (sr_a6 S1) (ix24 l0 i) (by omega) (by decide) (by decide) ?_
              refine k_incN4 rfl rfl ?_
              refine k_goto rfl ?_
              refine ih (i + 1) _ (by omega) (by omega) (fr_tr hF (fr_ui rfl)) hr (fun j => ?_)
              rw [i_ui]
              by_cases e : j = 24 * l0 + i
              · rw [if_pos ⟨rfl, e⟩, if_pos (by omega)]; rfl
              · rw [if_neg (fun z => e z.2), hz]
                by_cases e3 : 24 * l0 + f0 ≤ j ∧ j < 24 * l0 + i
                · rw [if_pos e3, if_pos (by omega)]
                · rw [if_neg e3, if_neg (by omega)]
        · refine k_iconst (v := nI 0) rfl (by decide) ?_
          refine k_zret rfl rfl (by decide) (Nat.le_refl _) (Nat.le_refl _) ?_
          rw [decide_eq_false c20, Bool.and_false] at hQ; exact hQ h fr_rf P
theorem c_R_bar {g : Gx} {h : Hp} {m d : Nat} {s : St} {Q : Option Value → Hp → Prop} (P : PR g h m s) (I : Inv s) (l q : Int32) (hQ : ∀ h1, hp_fr (inR m) h h1 → PR g h1 m (brS s l q).2 → Q (some (.int (bI (brS s l q).1))) h1) : Ct g M_R_bar (d + 2) 0 0 [.ref m, .int l, .int q] h Q := by
  have S := pr_S P
  have bT := v_told I
  have bL := v_lkr I
  refine ct_of ok_R_bar (by decide) (Nat.le_of_ble_eq_true rfl) [some (.ref m), some (.int l), some (.int q)] rfl rfl ?_
  unfold brS at hQ
  refine k_iload_n rfl rfl ?_
  refine k_if_lt rfl (fun c1 => ?_) (fun c1 => ?_)
  · refine k_iconst (v := nI 0) rfl (by decide) ?_
    refine k_zret rfl rfl (by decide) (Nat.le_refl _) (Nat.le_refl _) ?_
    rw [isc_f1 c1] at hQ; exact hQ h fr_rf P
  · refine k_iload_n rfl rfl ?_
    refine k_bipush (v := nI 24) rfl (by decide) ?_
    refine k_icmp_ge rfl (fun c7 => ?_) (fun c7 => ?_)
    · refine k_iconst (v := nI 0) rfl (by decide) ?_
      refine k_zret rfl rfl (by decide) (Nat.le_refl _) (Nat.le_refl _) ?_
      rw [isc_f2 (Int32.not_lt.mpr c7)] at hQ; exact hQ h fr_rf P
    · refine k_aload_n rfl rfl ?_
      refine k_iload_n rfl rfl ?_
      refine k_iload_n rfl rfl ?_
      refine k_iload_n rfl rfl ?_
      refine k_iconst (v := 1) rfl (by decide) ?_
      refine k_iadd rfl ?_
      rw [isc_t c1 (Int32.not_le.mp c7)] at hQ
      simp only [cond_true] at hQ
      refine k_cV3 rfl cw_R_rest wd_480 (sr_o S) rfl (by decide) (Nat.le_of_ble_eq_true rfl) ?_
      refine c_R_rest P I l q (q + 1) (fun h2 x2 P2 => ?_)
      refine kb_eq rfl (fun c19 => ?_) (fun c19 => ?_)
      · refine k_iconst (v := nI 0) rfl (by decide) ?_
        refine k_zret rfl rfl (by decide) (Nat.le_refl _) (Nat.le_refl _) ?_
        have h9 := hQ h2 x2 P2
        rw [c19] at h9
        exact h9
      · refine k_iconst (v := nI 1) rfl (by decide) ?_
        refine k_goto rfl ?_
        refine k_zret rfl rfl (by decide) (Nat.le_refl _) (Nat.le_refl _) ?_
        have h9 := hQ h2 x2 P2
        rw [c19] at h9
        exact h9
