theorem gv_0 (l : Nat) : ∀ n, gv (fun _ _ => 0) l n = 0
  | 0 => rfl
  | n + 1 => by simp only [gv]; rw [gv_0 l n]
theorem ca_ne {o a b j k : Nat} (hj : j < 6) (hk : k < 6) (h : j ≠ k ∨ a ≠ b) : ca o a + j ≠ ca o b + k := by unfold ca; omega
theorem pm_ca {o i j k : Nat} {p : Nat → Nat} (m : pm p) (hi : i < 40) (hj : j < 40) (e : ca o (p i) + k = ca o (p j) + k) : i = j := m.2 i j hi hj (by unfold ca at e; omega)
theorem c_S_dropPlan {g : Gx} {h : Hp} {o d : Nat} {p : Nat → Nat} {s : St} {Q : Option Value → Hp → Prop} (N : PN g h o p s) (hQ : ∀ h1, hp_fr (inC o) h h1 → PC g h1 o p (zeroP s) → Q none h1) : Ct g M_S_dropPlan d 0 0 [.ref o] h Q := by
  have S0 := pn_S N
  have b40 := pn_40 N
  have hm := (pn_m N).1
  refine ct_of ok_S_dropPlan (by decide) (Nat.le_of_ble_eq_true rfl) [some (.ref o), none, none] rfl rfl ?_
  have J : ∀ (q l : Nat) (h1 : Hp) (z : Option Value), l + q = 4 → hp_fr (inC o) h h1 → hp_r h1 = hp_r h → hp_j h1 = hp_j h → (∀ a j, (∀ i, i < s_told s → a ≠ ca o (p i) + 2) → (∀ l, l < 4 → ¬ (a = la o l ∧ j = 3)) → hp_i h1 a j = hp_i h a j) → (∀ i, i < s_told s → ∀ t, t < 4 → hp_i h1 (ca o (p i) + 2) t = 0) → (∀ l1, l1 < l → hp_i h1 (la o l1) 3 = 0) → Om g M_S_dropPlan d Q h1 43 [some (.ref o), some (.int (nI l)), z] [] := by
    intro q
    induction q with
    | zero =>
      intro l h1 z hl hF hr hj E zz gz
      have el : l = 4 := by omega
      subst el
      have S := sc_fr S0 hF (fun a _ _ k => by rw [hr])
      refine k_iload_n rfl rfl ?_
      refine k_iconst (v := nI 4) rfl (by decide) ?_
      refine kn_ge rfl (by omega) (by omega) (fun c45 => ?_) (fun c45 => ?_)
      · refine k_vret rfl rfl (Nat.le_refl _) (Nat.le_refl _) ?_
        exact hQ h1 hF ⟨S, fun i hi => by rw [hr]; exact pn_r N i hi, ⟨pn_m N, pn_40 (s := s) N⟩, fun i hi => by
            have hi : i < s_told s := hi
            have hb := hm i (by omega)
            obtain ⟨a1, a2, a3, a4, a6⟩ := pn_t N i hi
            have ee : ∀ k, k < 4 → k ≠ 2 → ∀ j, hp_i h1 (ca o (p i) + k) j = hp_i h (ca o (p i) + k) j := fun k hk k2 j => E _ j (fun i1 hi1 => ca_ne (by omega) (by omega) (Or.inl k2)) (fun l1 hl1 => by unfold ca la; omega)
            exact ⟨(ee 0 (by omega) (by omega) 5).trans a1, (ee 0 (by omega) (by omega) 6).trans a2, (ee 0 (by omega) (by omega) 7).trans a3, fun t ht => (ee 1 (by omega) (by omega) t).trans (a4 t ht), fun t ht => zz i hi t ht, fun t ht => (ee 3 (by omega) (by omega) t).trans (a6 t ht)⟩, fun i hi h40 => by
            have hi : s_told s ≤ i := hi
            have hb := hm i h40
            exact cF_tr (pn_f N i hi h40) (fun k hk j _ => E _ j (fun i1 hi1 => ca_ne (by omega) (by omega) (Or.inr (fun z => by have := (pn_m N).2 i i1 h40 (by omega) z; omega))) (fun l1 hl1 => by unfold ca la; omega)), fun j hj l hl => (E _ l (fun i1 hi1 => ca_ne (by omega) (by omega) (Or.inl (by omega))) (fun l1 hl1 => by unfold ca la; omega)).trans (pn_z N j hj l hl), fun l hl => (E _ l (fun i1 hi1 => by have := hm i1 (by omega); (try unfold ca); (try unfold la); omega) (fun l1 hl1 => by (try unfold ca); (try unfold la); omega)).trans (pn_rt (s := s) N l hl), fun l hl => by
            obtain ⟨a1, a3, a4, a5⟩ := pn_l N l hl
            exact ⟨fun z => ⟨(E _ 1 (fun i1 hi1 => by have := hm i1 (by omega); (try unfold ca); (try unfold la); omega) (fun l1 hl1 => by (try unfold ca); (try unfold la); omega)).trans (a1 z).1, ((E _ 2 (fun i1 hi1 => by have := hm i1 (by omega); (try unfold ca); (try unfold la); omega) (fun l1 hl1 => by (try unfold ca); (try unfold la); omega)).trans (a1 z).2).trans (by rw [us_cg (s := s) (s1 := zeroP s) rfl (fun _ => rfl)])⟩, (gz l hl).trans (by show _ = nI (gv (fun _ _ => 0) l (s_told s)); rw [gv_0]; rfl), (E _ 4 (fun i1 hi1 => by have := hm i1 (by omega); (try unfold ca); (try unfold la); omega) (fun l1 hl1 => by (try unfold ca); (try unfold la); omega)).trans a3, fun t ht => (E _ t (fun i1 hi1 => by have := hm i1 (by omega); (try unfold ca); (try unfold la); omega) (fun l1 hl1 => by (try unfold ca); (try unfold la); omega)).trans (a4 t ht), a5⟩, gT_cg (gT_tr (pn_g N) (fun k k1 k2 j => E _ j (fun i1 hi1 => by have := hm i1 (by omega); (try unfold ca); (try unfold la); omega) (fun l1 hl1 => by (try unfold ca); (try unfold la); omega)) (fun j => by rw [hj])) rfl rfl rfl rfl rfl, (E o 0 (fun i1 hi1 => by have := hm i1 (by omega); (try unfold ca); (try unfold la); omega) (fun l1 hl1 => by (try unfold ca); (try unfold la); omega)).trans (pn_cells (s := s) N), (E o 2 (fun i1 hi1 => by have := hm i1 (by omega); (try unfold ca); (try unfold la); omega) (fun l1 hl1 => by (try unfold ca); (try unfold la); omega)).trans (pn_told (s := s) N), (E o 4 (fun i1 hi1 => by have := hm i1 (by omega); (try unfold ca); (try unfold la); omega) (fun l1 hl1 => by (try unfold ca); (try unfold la); omega)).trans (pn_lkr (s := s) N), (E o 6 (fun i1 hi1 => by have := hm i1 (by omega); (try unfold ca); (try unfold la); omega) (fun l1 hl1 => by (try unfold ca); (try unfold la); omega)).trans (pn_things (s := s) N), (E o 8 (fun i1 hi1 => by have := hm i1 (by omega); (try unfold ca); (try unfold la); omega) (fun l1 hl1 => by (try unfold ca); (try unfold la); omega)).trans (pn_seen (s := s) N), by rw [hj]; exact pn_ab (s := s) N, by rw [hj]; exact pn_bl (s := s) N⟩
      · exact absurd c45 (by omega)
    | succ q ih =>
      intro l h1 z hl hF hr hj E zz gz
      have S := sc_fr S0 hF (fun a _ _ k => by rw [hr])
      refine k_iload_n rfl rfl ?_
      refine k_iconst (v := nI 4) rfl (by decide) ?_
      refine kn_ge rfl (by omega) (by omega) (fun c45 => ?_) (fun c45 => ?_)
      · exact absurd c45 (by omega)
      · refine k_aload_n rfl rfl ?_
        refine k_getR rfl rfl (sc_o S) (sc_lkrs S) ?_
        refine k_iload_n rfl rfl ?_
        refine k_aald (q := la o l) rfl (sc_a243 S) rfl (by decide) rfl (by omega) (by decide) (sc_l S l (by omega)).2.2.2 ?_
        refine k_iconst (v := nI 0) rfl (by decide) ?_
        refine k_putI rfl rfl rfl (sc_l S l (by omega)).1 ?_
        refine k_incN1 rfl rfl ?_
        refine k_goto rfl ?_
        refine ih (l + 1) _ z (by omega) (fr_tr hF (fr_ui ⟨by unfold la; omega, by unfold la; omega⟩)) hr hj (fun a j h2 h3 => ?_) (fun i hi t ht => ?_) (fun l1 hl1 => ?_)
        · rw [i_ui, if_neg (h3 l (by omega))]; exact E a j h2 h3
        · rw [i_ui, if_neg (by have := hm i (by omega); unfold ca la; omega)]; exact zz i hi t ht
        · rw [i_ui]
          by_cases e : l1 = l
          · rw [if_pos ⟨by rw [e], rfl⟩]; rfl
          · rw [if_neg (by unfold la; omega)]; exact gz l1 (by omega)
  refine k_iconst (v := nI 0) rfl (by decide) ?_
  refine k_ist1 rfl rfl ?_
  suffices H : ∀ (q i : Nat) (h1 : Hp) (z : Option Value), i + q = s_told s → hp_fr (inC o) h h1 → hp_r h1 = hp_r h → hp_j h1 = hp_j h → (∀ a j, (∀ i, i < s_told s → a ≠ ca o (p i) + 2) → hp_i h1 a j = hp_i h a j) → (∀ i1, i1 < i → ∀ t, t < 4 → hp_i h1 (ca o (p i1) + 2) t = 0) → Om g M_S_dropPlan d Q h1 2 [some (.ref o), some (.int (nI i)), z] [] from
    H _ 0 h none (Nat.zero_add _) fr_rf rfl rfl (fun _ _ _ => rfl) (fun i1 hi1 => absurd hi1 (Nat.not_lt_zero _))
  intro q
  induction q with
  | zero =>
    intro i h1 z hi hF hr hj E zz
    have ei : i = s_told s := by omega
    subst ei
    have S := sc_fr S0 hF (fun a _ _ k => by rw [hr])
    have hT : hp_i h1 o 2 = nI (s_told s) := (E o 2 (fun i1 hi1 => by unfold ca; omega)).trans (pn_told N)
    refine k_iload_n rfl rfl ?_
    refine k_aload_n rfl rfl ?_
    refine k_gI rfl rfl (sc_o S) hT ?_
    refine kn_ge rfl (by omega) (by omega) (fun c7 => ?_) (fun c7 => ?_)
    · refine k_iconst (v := nI 0) rfl (by decide) ?_
      refine k_ist1 rfl rfl ?_
      exact J 4 0 h1 z rfl hF hr hj (fun a j h2 _ => E a j h2) zz (fun l1 hl1 => absurd hl1 (Nat.not_lt_zero _))
    · exact absurd c7 (by omega)
  | succ q ih =>
    intro i h1 z hi hF hr hj E zz
    have hit : i < s_told s := by omega
    have hpi := hm i (by omega)
    have S := sc_fr S0 hF (fun a _ _ k => by rw [hr])
    have hT : hp_i h1 o 2 = nI (s_told s) := (E o 2 (fun i1 hi1 => by unfold ca; omega)).trans (pn_told N)
    refine k_iload_n rfl rfl ?_
    refine k_aload_n rfl rfl ?_
    refine k_gI rfl rfl (sc_o S) hT ?_
    refine kn_ge rfl (by omega) (by omega) (fun c7 => ?_) (fun c7 => ?_)
    · exact absurd c7 (by omega)
    · refine k_iconst (v := nI 0) rfl (by decide) ?_
      refine k_ist2 rfl rfl ?_
      suffices H2 : ∀ (q2 t : Nat) (h2 : Hp), t + q2 = 4 → hp_fr (inC o) h h2 → hp_r h2 = hp_r h → hp_j h2 = hp_j h → (∀ a j, (∀ i, i < s_told s → a ≠ ca o (p i) + 2) → hp_i h2 a j = hp_i h a j) → (∀ i1, i1 < i → ∀ t, t < 4 → hp_i h2 (ca o (p i1) + 2) t = 0) → (∀ t1, t1 < t → hp_i h2 (ca o (p i) + 2) t1 = 0) → Om g M_S_dropPlan d Q h2 12 [some (.ref o), some (.int (nI i)), some (.int (nI t))] [] from
        H2 4 0 h1 rfl hF hr hj E zz (fun t1 ht1 => absurd ht1 (Nat.not_lt_zero _))
      intro q2
      induction q2 with
      | zero =>
        intro t h2 ht hF2 hr2 hj2 E2 zz2 tz
        refine k_iload_n rfl rfl ?_
        refine k_iconst (v := nI 4) rfl (by decide) ?_
        refine kn_ge rfl (by omega) (by omega) (fun c14 => ?_) (fun c14 => ?_)
        · refine k_incN1 rfl rfl ?_
          refine k_goto rfl ?_
          refine ih (i + 1) h2 _ (by omega) hF2 hr2 hj2 E2 (fun i1 hi1 t1 ht1 => ?_)
          by_cases e : i1 = i
          · subst e; exact tz t1 (by omega)
          · exact zz2 i1 (by omega) t1 ht1
        · exact absurd c14 (by omega)
      | succ q2 ih2 =>
        intro t h2 ht hF2 hr2 hj2 E2 zz2 tz
        have S := sc_fr S0 hF2 (fun a _ _ k => by rw [hr2])
        refine k_iload_n rfl rfl ?_
        refine k_iconst (v := nI 4) rfl (by decide) ?_
        refine kn_ge rfl (by omega) (by omega) (fun c14 => ?_) (fun c14 => ?_)
        · exact absurd c14 (by omega)
        · refine k_aload_n rfl rfl ?_
          refine k_getR rfl rfl (sc_o S) (sc_told S) ?_
          refine k_iload_n rfl rfl ?_
          refine k_aald (q := ca o (p i)) rfl (sc_a2 S) rfl (by decide) rfl (show i < 40 by omega) (by decide) (by rw [hr2]; exact pn_r N i (by omega)) ?_
          refine k_getR rfl rfl (sc_c S (p i) hpi).1 (sc_c S (p i) hpi).2.2.2.2.2.2.2.2.1 ?_
          refine k_iload_n rfl rfl ?_
          refine k_iconst (v := nI 0) rfl (by decide) ?_
          refine k_iS rfl (sc_c S (p i) hpi).2.2.1 rfl (by omega) (by decide) ?_
          refine k_incN2 rfl rfl ?_
          refine k_goto rfl ?_
          refine ih2 (t + 1) _ (by omega) (fr_tr hF2 (fr_ui ⟨by unfold ca; omega, by unfold ca; omega⟩)) hr2 hj2 (fun a j h3 => ?_) (fun i1 hi1 t1 ht1 => ?_) (fun t1 ht1 => ?_)
          · rw [i_ui, if_neg (fun z => h3 i hit z.1)]; exact E2 a j h3
          · rw [i_ui, if_neg (fun z => by have := (pm_ca (pn_m N) (by omega) (by omega) z.1); omega)]; exact zz2 i1 hi1 t1 ht1
          · rw [i_ui]
            by_cases e : t1 = t
            · rw [if_pos ⟨rfl, e⟩]; rfl
            · rw [if_neg (by omega)]; exact tz t1 (by omega)
theorem c_S_standingOf {g : Gx} {h : Hp} {o d : Nat} {p : Nat → Nat} {s : St} {Q : Option Value → Hp → Prop} (P : PC g h o p s) (I : Inv s) {i : Nat} (hk : i < s_told s) (hQ : Q (some (.long (lN (rk s i)))) h) : Ct g M_S_standingOf (d + 4) 0 0 [.ref o, .ref (ca o (p i))] h Q := by
  have S := pc_S P
  have bT := v_told I
  have bL := v_lkr I
  refine ct_of ok_S_standingOf (by decide) (Nat.le_of_ble_eq_true rfl) [some (.ref o), some (.ref (ca o (p i)))] rfl rfl ?_
  have hpi := (pc_m P).1 i (by omega)
  have hcb := v_cells I
  have hnb := v_num I i hk
  unfold rk at hQ
  cases hs : s_seen s with
  | some y =>
    have hy := v_seen I y hs
    rw [hs] at hQ
    simp only at hQ
    refine k_aload_n rfl rfl ?_
    refine k_gI (x := nI y) rfl rfl (sc_o S) ((pc_seen P).trans (by rw [hs]; rfl)) ?_
    refine k_iconst (v := -1) rfl (by decide) ?_
    refine k_icmp_eq rfl (fun c5 => ?_) (fun c5 => ?_)
    · exact absurd c5 (nI_m1 (by omega))
    · refine k_aload_n rfl rfl ?_
      refine k_gI rfl rfl (sc_c S (p i) hpi).1 (pc_t P i hk).1 ?_
      refine k_aload_n rfl rfl ?_
      refine k_gI (x := nI y) rfl rfl (sc_o S) ((pc_seen P).trans (by rw [hs]; rfl)) ?_
      refine kn_ne rfl (by omega) (by omega) (fun c16 => ?_) (fun c16 => ?_)
      · refine k_lconst (v := lN 0) rfl (by decide) ?_
        refine k_lret rfl rfl (Nat.le_refl _) (Nat.le_refl _) ?_
        rw [if_neg c16] at hQ; exact hQ
      · refine k_lconst (v := lN 1) rfl (by decide) ?_
        refine k_goto rfl ?_
        refine k_lret rfl rfl (Nat.le_refl _) (Nat.le_refl _) ?_
        rw [if_pos c16] at hQ; exact hQ
  | none =>
    rw [hs] at hQ
    refine k_aload_n rfl rfl ?_
    refine k_gI (x := -1) rfl rfl (sc_o S) ((pc_seen P).trans (by rw [hs]; rfl)) ?_
    refine k_iconst (v := -1) rfl (by decide) ?_
    refine k_icmp_eq rfl (fun c5 => ?_) (fun c5 => ?_)
    · refine k_aload_n rfl rfl ?_
      refine k_aload_n rfl rfl ?_
      refine k_getR rfl rfl (sc_o S) (sc_rates S) ?_
      refine k_cVN1 rfl cw_C_remains (nsM (i := 8) rfl) (sc_c S (p i) hpi).1 rfl (by decide) (Nat.le_of_ble_eq_true rfl) ?_
      refine c_C_remains I (cB_of P hk) (pc_t P i hk).2.2.2.2.2 ?_
      refine k_lret rfl rfl (Nat.le_refl _) (Nat.le_refl _) ?_
      exact hQ
    · exact absurd rfl c5
theorem c_S_countBefore {g : Gx} {h : Hp} {o d : Nat} {p : Nat → Nat} {s : St} {Q : Option Value → Hp → Prop} (P : PC g h o p s) (I : Inv s) {k : Nat} (hk : k < s_told s) (hst : ∀ i, i < s_told s → hp_j h (ca o (p i)) 8 = lN (rk s i)) (hQ : Q (some (.int (nI (bfO s k (s_told s))))) h) : Ct g M_S_countBefore (d) 0 0 [.ref o, .int (nI k)] h Q := by
  have S := pc_S P
  have bT := v_told I
  have bL := v_lkr I
  refine ct_of ok_S_countBefore (by decide) (Nat.le_of_ble_eq_true rfl) [some (.ref o), some (.int (nI k)), none, none, none, none] rfl rfl ?_
  have hpk := (pc_m P).1 k (by omega)
  have hrk := rk_le I hk
  refine k_iconst (v := nI 0) rfl (by decide) ?_
  refine k_ist2 rfl rfl ?_
  refine k_iconst (v := nI 0) rfl (by decide) ?_
  refine k_ist3 rfl rfl ?_
  suffices H : ∀ (q i : Nat) (z4 z5 : Option Value), i + q = s_told s → Om g M_S_countBefore d Q h 4 [some (.ref o), some (.int (nI k)), some (.int (nI (bfO s k i))), some (.int (nI i)), z4, z5] [] from H _ 0 none none (Nat.zero_add _)
  intro q
  induction q with
  | zero =>
    intro i z4 z5 hi
    have ei : i = s_told s := by omega
    subst ei
    refine k_iload_n rfl rfl ?_
    refine k_aload_n rfl rfl ?_
    refine k_gI rfl rfl (sc_o S) (pc_told P) ?_
    refine kn_ge rfl (by omega) (by omega) (fun c9 => ?_) (fun c9 => ?_)
    · refine k_iload_n rfl rfl ?_
      refine k_iret rfl rfl (Nat.le_refl _) (Nat.le_refl _) ?_
      exact hQ
    · exact absurd c9 (by omega)
  | succ q ih =>
    intro i z4 z5 hi
    have hit : i < s_told s := by omega
    have hpi := (pc_m P).1 i (by omega)
    have hri := rk_le I hit
    have hbo := bfO_le s k i
    refine k_iload_n rfl rfl ?_
    refine k_aload_n rfl rfl ?_
    refine k_gI rfl rfl (sc_o S) (pc_told P) ?_
    refine kn_ge rfl (by omega) (by omega) (fun c9 => ?_) (fun c9 => ?_)
    · exact absurd c9 (by omega)
    · refine k_aload_n rfl rfl ?_
      refine k_getR rfl rfl (sc_o S) (sc_told S) ?_
      refine k_iload_n rfl rfl ?_
      refine k_aald (q := ca o (p i)) rfl (sc_a2 S) rfl (by decide) rfl (by omega) (by decide) (pc_r P i (by omega)) ?_
      refine k_gL rfl rfl (sc_c S (p i) hpi).1 (hst i hit) ?_
      refine k_aload_n rfl rfl ?_
      refine k_getR rfl rfl (sc_o S) (sc_told S) ?_
      refine k_iload_n rfl rfl ?_
      refine k_aald (q := ca o (p k)) rfl (sc_a2 S) rfl (by decide) rfl (by omega) (by decide) (pc_r P k (by omega)) ?_
      refine k_gL rfl rfl (sc_c S (p k) hpk).1 (hst k hk) ?_
      refine klN_le rfl rfl (by omega) (by omega) (fun c30 => ?_) (fun c30 => ?_)
      · refine k_iconst (v := nI 0) rfl (by decide) ?_
        refine k_ist4 rfl rfl ?_
        refine k_aload_n rfl rfl ?_
        refine k_getR rfl rfl (sc_o S) (sc_told S) ?_
        refine k_iload_n rfl rfl ?_
        refine k_aald (q := ca o (p i)) rfl (sc_a2 S) rfl (by decide) rfl (by omega) (by decide) (pc_r P i (by omega)) ?_
        refine k_gL rfl rfl (sc_c S (p i) hpi).1 (hst i hit) ?_
        refine k_aload_n rfl rfl ?_
        refine k_getR rfl rfl (sc_o S) (sc_told S) ?_
        refine k_iload_n rfl rfl ?_
        refine k_aald (q := ca o (p k)) rfl (sc_a2 S) rfl (by decide) rfl (by omega) (by decide) (pc_r P k (by omega)) ?_
        refine k_gL rfl rfl (sc_c S (p k) hpk).1 (hst k hk) ?_
        refine klN_ne rfl rfl (by omega) (by omega) (fun c59 => ?_) (fun c59 => ?_)
        · refine k_iconst (v := nI 0) rfl (by decide) ?_
          refine k_ist5 rfl rfl ?_
          refine k_iload rfl rfl ?_
          refine k_if_ne rfl (fun c77 => ?_) (fun c77 => ?_)
          · refine k_incN2 rfl rfl ?_
            refine k_incN3 rfl rfl ?_
            refine k_goto rfl ?_
            first
              | exact absurd c77 (by decide)
              | exact absurd c82 (by decide)
              | (have e9 := ih (i + 1) (some (.int (nI 0))) (some (.int (nI 0))) (by omega); simp only [bfO] at e9; rw [if_neg (by omega)] at e9; exact e9)
              | (have e9 := ih (i + 1) (some (.int (nI 1))) (some (.int (nI 0))) (by omega); simp only [bfO] at e9; rw [if_pos (by omega)] at e9; exact e9)
              | (have e9 := ih (i + 1) (some (.int (nI 0))) (some (.int (nI 1))) (by omega); simp only [bfO] at e9; rw [if_pos (by omega)] at e9; exact e9)
              | (have e9 := ih (i + 1) (some (.int (nI 1))) (some (.int (nI 1))) (by omega); simp only [bfO] at e9; rw [if_pos (by omega)] at e9; exact e9)
          · refine k_iload rfl rfl ?_
            refine k_if_eq rfl (fun c82 => ?_) (fun c82 => ?_)
            · refine k_incN3 rfl rfl ?_
              refine k_goto rfl ?_
              first
                | exact absurd c77 (by decide)
                | exact absurd c82 (by decide)
                | (have e9 := ih (i + 1) (some (.int (nI 0))) (some (.int (nI 0))) (by omega); simp only [bfO] at e9; rw [if_neg (by omega)] at e9; exact e9)
                | (have e9 := ih (i + 1) (some (.int (nI 1))) (some (.int (nI 0))) (by omega); simp only [bfO] at e9; rw [if_pos (by omega)] at e9; exact e9)
                | (have e9 := ih (i + 1) (some (.int (nI 0))) (some (.int (nI 1))) (by omega); simp only [bfO] at e9; rw [if_pos (by omega)] at e9; exact e9)
                | (have e9 := ih (i + 1) (some (.int (nI 1))) (some (.int (nI 1))) (by omega); simp only [bfO] at e9; rw [if_pos (by omega)] at e9; exact e9)
            · refine k_incN2 rfl rfl ?_
              refine k_incN3 rfl rfl ?_
              refine k_goto rfl ?_
              first
                | exact absurd c77 (by decide)
                | exact absurd c82 (by decide)
                | (have e9 := ih (i + 1) (some (.int (nI 0))) (some (.int (nI 0))) (by omega); simp only [bfO] at e9; rw [if_neg (by omega)] at e9; exact e9)
                | (have e9 := ih (i + 1) (some (.int (nI 1))) (some (.int (nI 0))) (by omega); simp only [bfO] at e9; rw [if_pos (by omega)] at e9; exact e9)
                | (have e9 := ih (i + 1) (some (.int (nI 0))) (some (.int (nI 1))) (by omega); simp only [bfO] at e9; rw [if_pos (by omega)] at e9; exact e9)
                | (have e9 := ih (i + 1) (some (.int (nI 1))) (some (.int (nI 1))) (by omega); simp only [bfO] at e9; rw [if_pos (by omega)] at e9; exact e9)
        · refine k_iload_n rfl rfl ?_
          refine k_iload_n rfl rfl ?_
          refine kn_ge rfl (by omega) (by omega) (fun c65 => ?_) (fun c65 => ?_)
          · refine k_iconst (v := nI 0) rfl (by decide) ?_
            refine k_ist5 rfl rfl ?_
            refine k_iload rfl rfl ?_
            refine k_if_ne rfl (fun c77 => ?_) (fun c77 => ?_)
            · refine k_incN2 rfl rfl ?_
              refine k_incN3 rfl rfl ?_
              refine k_goto rfl ?_
              first
                | exact absurd c77 (by decide)
                | exact absurd c82 (by decide)
                | (have e9 := ih (i + 1) (some (.int (nI 0))) (some (.int (nI 0))) (by omega); simp only [bfO] at e9; rw [if_neg (by omega)] at e9; exact e9)
                | (have e9 := ih (i + 1) (some (.int (nI 1))) (some (.int (nI 0))) (by omega); simp only [bfO] at e9; rw [if_pos (by omega)] at e9; exact e9)
                | (have e9 := ih (i + 1) (some (.int (nI 0))) (some (.int (nI 1))) (by omega); simp only [bfO] at e9; rw [if_pos (by omega)] at e9; exact e9)
                | (have e9 := ih (i + 1) (some (.int (nI 1))) (some (.int (nI 1))) (by omega); simp only [bfO] at e9; rw [if_pos (by omega)] at e9; exact e9)
            · refine k_iload rfl rfl ?_
              refine k_if_eq rfl (fun c82 => ?_) (fun c82 => ?_)
              · refine k_incN3 rfl rfl ?_
                refine k_goto rfl ?_
                first
                  | exact absurd c77 (by decide)
                  | exact absurd c82 (by decide)
                  | (have e9 := ih (i + 1) (some (.int (nI 0))) (some (.int (nI 0))) (by omega); simp only [bfO] at e9; rw [if_neg (by omega)] at e9; exact e9)
                  | (have e9 := ih (i + 1) (some (.int (nI 1))) (some (.int (nI 0))) (by omega); simp only [bfO] at e9; rw [if_pos (by omega)] at e9; exact e9)
                  | (have e9 := ih (i + 1) (some (.int (nI 0))) (some (.int (nI 1))) (by omega); simp only [bfO] at e9; rw [if_pos (by omega)] at e9; exact e9)
                  | (have e9 := ih (i + 1) (some (.int (nI 1))) (some (.int (nI 1))) (by omega); simp only [bfO] at e9; rw [if_pos (by omega)] at e9; exact e9)
              · refine k_incN2 rfl rfl ?_
                refine k_incN3 rfl rfl ?_
                refine k_goto rfl ?_
                first
                  | exact absurd c77 (by decide)
                  | exact absurd c82 (by decide)
                  | (have e9 := ih (i + 1) (some (.int (nI 0))) (some (.int (nI 0))) (by omega); simp only [bfO] at e9; rw [if_neg (by omega)] at e9; exact e9)
                  | (have e9 := ih (i + 1) (some (.int (nI 1))) (some (.int (nI 0))) (by omega); simp only [bfO] at e9; rw [if_pos (by omega)] at e9; exact e9)
                  | (have e9 := ih (i + 1) (some (.int (nI 0))) (some (.int (nI 1))) (by omega); simp only [bfO] at e9; rw [if_pos (by omega)] at e9; exact e9)
                  | (have e9 := ih (i + 1) (some (.int (nI 1))) (some (.int (nI 1))) (by omega); simp only [bfO] at e9; rw [if_pos (by omega)] at e9; exact e9)
          · refine k_iconst (v := nI 1) rfl (by decide) ?_
            refine k_goto rfl ?_
            refine k_ist5 rfl rfl ?_
            refine k_iload rfl rfl ?_
            refine k_if_ne rfl (fun c77 => ?_) (fun c77 => ?_)
            · refine k_incN2 rfl rfl ?_
              refine k_incN3 rfl rfl ?_
              refine k_goto rfl ?_
              first
                | exact absurd c77 (by decide)
                | exact absurd c82 (by decide)
                | (have e9 := ih (i + 1) (some (.int (nI 0))) (some (.int (nI 0))) (by omega); simp only [bfO] at e9; rw [if_neg (by omega)] at e9; exact e9)
                | (have e9 := ih (i + 1) (some (.int (nI 1))) (some (.int (nI 0))) (by omega); simp only [bfO] at e9; rw [if_pos (by omega)] at e9; exact e9)
                | (have e9 := ih (i + 1) (some (.int (nI 0))) (some (.int (nI 1))) (by omega); simp only [bfO] at e9; rw [if_pos (by omega)] at e9; exact e9)
                | (have e9 := ih (i + 1) (some (.int (nI 1))) (some (.int (nI 1))) (by omega); simp only [bfO] at e9; rw [if_pos (by omega)] at e9; exact e9)
            · refine k_iload rfl rfl ?_
              refine k_if_eq rfl (fun c82 => ?_) (fun c82 => ?_)
              · refine k_incN3 rfl rfl ?_
                refine k_goto rfl ?_
                first
                  | exact absurd c77 (by decide)
                  | exact absurd c82 (by decide)
                  | (have e9 := ih (i + 1) (some (.int (nI 0))) (some (.int (nI 0))) (by omega); simp only [bfO] at e9; rw [if_neg (by omega)] at e9; exact e9)
                  | (have e9 := ih (i + 1) (some (.int (nI 1))) (some (.int (nI 0))) (by omega); simp only [bfO] at e9; rw [if_pos (by omega)] at e9; exact e9)
                  | (have e9 := ih (i + 1) (some (.int (nI 0))) (some (.int (nI 1))) (by omega); simp only [bfO] at e9; rw [if_pos (by omega)] at e9; exact e9)
                  | (have e9 := ih (i + 1) (some (.int (nI 1))) (some (.int (nI 1))) (by omega); simp only [bfO] at e9; rw [if_pos (by omega)] at e9; exact e9)
              · refine k_incN2 rfl rfl ?_
                refine k_incN3 rfl rfl ?_
                refine k_goto rfl ?_
                first
                  | exact absurd c77 (by decide)
                  | exact absurd c82 (by decide)
                  | (have e9 := ih (i + 1) (some (.int (nI 0))) (some (.int (nI 0))) (by omega); simp only [bfO] at e9; rw [if_neg (by omega)] at e9; exact e9)
                  | (have e9 := ih (i + 1) (some (.int (nI 1))) (some (.int (nI 0))) (by omega); simp only [bfO] at e9; rw [if_pos (by omega)] at e9; exact e9)
                  | (have e9 := ih (i + 1) (some (.int (nI 0))) (some (.int (nI 1))) (by omega); simp only [bfO] at e9; rw [if_pos (by omega)] at e9; exact e9)
                  | (have e9 := ih (i + 1) (some (.int (nI 1))) (some (.int (nI 1))) (by omega); simp only [bfO] at e9; rw [if_pos (by omega)] at e9; exact e9)
      · refine k_iconst (v := nI 1) rfl (by decide) ?_
        refine k_goto rfl ?_
        refine k_ist4 rfl rfl ?_
        refine k_aload_n rfl rfl ?_
        refine k_getR rfl rfl (sc_o S) (sc_told S) ?_
        refine k_iload_n rfl rfl ?_
        refine k_aald (q := ca o (p i)) rfl (sc_a2 S) rfl (by decide) rfl (by omega) (by decide) (pc_r P i (by omega)) ?_
        refine k_gL rfl rfl (sc_c S (p i) hpi).1 (hst i hit) ?_
        refine k_aload_n rfl rfl ?_
        refine k_getR rfl rfl (sc_o S) (sc_told S) ?_
        refine k_iload_n rfl rfl ?_
        refine k_aald (q := ca o (p k)) rfl (sc_a2 S) rfl (by decide) rfl (by omega) (by decide) (pc_r P k (by omega)) ?_
        refine k_gL rfl rfl (sc_c S (p k) hpk).1 (hst k hk) ?_
        refine klN_ne rfl rfl (by omega) (by omega) (fun c59 => ?_) (fun c59 => ?_)
        · refine k_iconst (v := nI 0) rfl (by decide) ?_
          refine k_ist5 rfl rfl ?_
          refine k_iload rfl rfl ?_
          refine k_if_ne rfl (fun c77 => ?_) (fun c77 => ?_)
          · refine k_incN2 rfl rfl ?_
            refine k_incN3 rfl rfl ?_
            refine k_goto rfl ?_
            first
              | exact absurd c77 (by decide)
              | exact absurd c82 (by decide)
              | (have e9 := ih (i + 1) (some (.int (nI 0))) (some (.int (nI 0))) (by omega); simp only [bfO] at e9; rw [if_neg (by omega)] at e9; exact e9)
              | (have e9 := ih (i + 1) (some (.int (nI 1))) (some (.int (nI 0))) (by omega); simp only [bfO] at e9; rw [if_pos (by omega)] at e9; exact e9)
              | (have e9 := ih (i + 1) (some (.int (nI 0))) (some (.int (nI 1))) (by omega); simp only [bfO] at e9; rw [if_pos (by omega)] at e9; exact e9)
              | (have e9 := ih (i + 1) (some (.int (nI 1))) (some (.int (nI 1))) (by omega); simp only [bfO] at e9; rw [if_pos (by omega)] at e9; exact e9)
          · refine k_iload rfl rfl ?_
            refine k_if_eq rfl (fun c82 => ?_) (fun c82 => ?_)
            · refine k_incN3 rfl rfl ?_
              refine k_goto rfl ?_
              first
                | exact absurd c77 (by decide)
                | exact absurd c82 (by decide)
                | (have e9 := ih (i + 1) (some (.int (nI 0))) (some (.int (nI 0))) (by omega); simp only [bfO] at e9; rw [if_neg (by omega)] at e9; exact e9)
                | (have e9 := ih (i + 1) (some (.int (nI 1))) (some (.int (nI 0))) (by omega); simp only [bfO] at e9; rw [if_pos (by omega)] at e9; exact e9)
                | (have e9 := ih (i + 1) (some (.int (nI 0))) (some (.int (nI 1))) (by omega); simp only [bfO] at e9; rw [if_pos (by omega)] at e9; exact e9)
                | (have e9 := ih (i + 1) (some (.int (nI 1))) (some (.int (nI 1))) (by omega); simp only [bfO] at e9; rw [if_pos (by omega)] at e9; exact e9)
            · refine k_incN2 rfl rfl ?_
              refine k_incN3 rfl rfl ?_
              refine k_goto rfl ?_
              first
                | exact absurd c77 (by decide)
                | exact absurd c82 (by decide)
                | (have e9 := ih (i + 1) (some (.int (nI 0))) (some (.int (nI 0))) (by omega); simp only [bfO] at e9; rw [if_neg (by omega)] at e9; exact e9)
                | (have e9 := ih (i + 1) (some (.int (nI 1))) (some (.int (nI 0))) (by omega); simp only [bfO] at e9; rw [if_pos (by omega)] at e9; exact e9)
                | (have e9 := ih (i + 1) (some (.int (nI 0))) (some (.int (nI 1))) (by omega); simp only [bfO] at e9; rw [if_pos (by omega)] at e9; exact e9)
                | (have e9 := ih (i + 1) (some (.int (nI 1))) (some (.int (nI 1))) (by omega); simp only [bfO] at e9; rw [if_pos (by omega)] at e9; exact e9)
        · refine k_iload_n rfl rfl ?_
          refine k_iload_n rfl rfl ?_
          refine kn_ge rfl (by omega) (by omega) (fun c65 => ?_) (fun c65 => ?_)
          · refine k_iconst (v := nI 0) rfl (by decide) ?_
            refine k_ist5 rfl rfl ?_
            refine k_iload rfl rfl ?_
            refine k_if_ne rfl (fun c77 => ?_) (fun c77 => ?_)
            · refine k_incN2 rfl rfl ?_
              refine k_incN3 rfl rfl ?_
              refine k_goto rfl ?_
              first
                | exact absurd c77 (by decide)
                | exact absurd c82 (by decide)
                | (have e9 := ih (i + 1) (some (.int (nI 0))) (some (.int (nI 0))) (by omega); simp only [bfO] at e9; rw [if_neg (by omega)] at e9; exact e9)
                | (have e9 := ih (i + 1) (some (.int (nI 1))) (some (.int (nI 0))) (by omega); simp only [bfO] at e9; rw [if_pos (by omega)] at e9; exact e9)
                | (have e9 := ih (i + 1) (some (.int (nI 0))) (some (.int (nI 1))) (by omega); simp only [bfO] at e9; rw [if_pos (by omega)] at e9; exact e9)
                | (have e9 := ih (i + 1) (some (.int (nI 1))) (some (.int (nI 1))) (by omega); simp only [bfO] at e9; rw [if_pos (by omega)] at e9; exact e9)
            · refine k_iload rfl rfl ?_
              refine k_if_eq rfl (fun c82 => ?_) (fun c82 => ?_)
              · refine k_incN3 rfl rfl ?_
                refine k_goto rfl ?_
                first
                  | exact absurd c77 (by decide)
                  | exact absurd c82 (by decide)
                  | (have e9 := ih (i + 1) (some (.int (nI 0))) (some (.int (nI 0))) (by omega); simp only [bfO] at e9; rw [if_neg (by omega)] at e9; exact e9)
                  | (have e9 := ih (i + 1) (some (.int (nI 1))) (some (.int (nI 0))) (by omega); simp only [bfO] at e9; rw [if_pos (by omega)] at e9; exact e9)
                  | (have e9 := ih (i + 1) (some (.int (nI 0))) (some (.int (nI 1))) (by omega); simp only [bfO] at e9; rw [if_pos (by omega)] at e9; exact e9)
                  | (have e9 := ih (i + 1) (some (.int (nI 1))) (some (.int (nI 1))) (by omega); simp only [bfO] at e9; rw [if_pos (by omega)] at e9; exact e9)
              · refine k_incN2 rfl rfl ?_
                refine k_incN3 rfl rfl ?_
                refine k_goto rfl ?_
                first
                  | exact absurd c77 (by decide)
                  | exact absurd c82 (by decide)
                  | (have e9 := ih (i + 1) (some (.int (nI 0))) (some (.int (nI 0))) (by omega); simp only [bfO] at e9; rw [if_neg (by omega)] at e9; exact e9)
                  | (have e9 := ih (i + 1) (some (.int (nI 1))) (some (.int (nI 0))) (by omega); simp only [bfO] at e9; rw [if_pos (by omega)] at e9; exact e9)
                  | (have e9 := ih (i + 1) (some (.int (nI 0))) (some (.int (nI 1))) (by omega); simp only [bfO] at e9; rw [if_pos (by omega)] at e9; exact e9)
                  | (have e9 := ih (i + 1) (some (.int (nI 1))) (some (.int (nI 1))) (by omega); simp only [bfO] at e9; rw [if_pos (by omega)] at e9; exact e9)
          · refine k_iconst (v := nI 1) rfl (by decide) ?_
            refine k_goto rfl ?_
            refine k_ist5 rfl rfl ?_
            refine k_iload rfl rfl ?_
            refine k_if_ne rfl (fun c77 => ?_) (fun c77 => ?_)
            · refine k_incN2 rfl rfl ?_
              refine k_incN3 rfl rfl ?_
              refine k_goto rfl ?_
              first
                | exact absurd c77 (by decide)
                | exact absurd c82 (by decide)
                | (have e9 := ih (i + 1) (some (.int (nI 0))) (some (.int (nI 0))) (by omega); simp only [bfO] at e9; rw [if_neg (by omega)] at e9; exact e9)
                | (have e9 := ih (i + 1) (some (.int (nI 1))) (some (.int (nI 0))) (by omega); simp only [bfO] at e9; rw [if_pos (by omega)] at e9; exact e9)
                | (have e9 := ih (i + 1) (some (.int (nI 0))) (some (.int (nI 1))) (by omega); simp only [bfO] at e9; rw [if_pos (by omega)] at e9; exact e9)
                | (have e9 := ih (i + 1) (some (.int (nI 1))) (some (.int (nI 1))) (by omega); simp only [bfO] at e9; rw [if_pos (by omega)] at e9; exact e9)
            · refine k_iload rfl rfl ?_
              refine k_if_eq rfl (fun c82 => ?_) (fun c82 => ?_)
              · refine k_incN3 rfl rfl ?_
                refine k_goto rfl ?_
                first
                  | exact absurd c77 (by decide)
                  | exact absurd c82 (by decide)
                  | (have e9 := ih (i + 1) (some (.int (nI 0))) (some (.int (nI 0))) (by omega); simp only [bfO] at e9; rw [if_neg (by omega)] at e9; exact e9)
                  | (have e9 := ih (i + 1) (some (.int (nI 1))) (some (.int (nI 0))) (by omega); simp only [bfO] at e9; rw [if_pos (by omega)] at e9; exact e9)
                  | (have e9 := ih (i + 1) (some (.int (nI 0))) (some (.int (nI 1))) (by omega); simp only [bfO] at e9; rw [if_pos (by omega)] at e9; exact e9)
                  | (have e9 := ih (i + 1) (some (.int (nI 1))) (some (.int (nI 1))) (by omega); simp only [bfO] at e9; rw [if_pos (by omega)] at e9; exact e9)
              · refine k_incN2 rfl rfl ?_
                refine k_incN3 rfl rfl ?_
                refine k_goto rfl ?_
                first
                  | exact absurd c77 (by decide)
                  | exact absurd c82 (by decide)
                  | (have e9 := ih (i + 1) (some (.int (nI 0))) (some (.int (nI 0))) (by omega); simp only [bfO] at e9; rw [if_neg (by omega)] at e9; exact e9)
                  | (have e9 := ih (i + 1) (some (.int (nI 1))) (some (.int (nI 0))) (by omega); simp only [bfO] at e9; rw [if_pos (by omega)] at e9; exact e9)
                  | (have e9 := ih (i + 1) (some (.int (nI 0))) (some (.int (nI 1))) (by omega); simp only [bfO] at e9; rw [if_pos (by omega)] at e9; exact e9)
                  | (have e9 := ih (i + 1) (some (.int (nI 1))) (some (.int (nI 1))) (by omega); simp only [bfO] at e9; rw [if_pos (by omega)] at e9; exact e9)
theorem pc_st {g : Gx} {h : Hp} {o j : Nat} {p : Nat → Nat} {s : St} {v : Int64} (P : PC g h o p s) (hj : j < 40) : PC g (hp_uj h (ca o j) 8 v) o p s :=
  pc_uj P (fr_uj ⟨by unfold ca; omega, by unfold ca; omega⟩) rfl rfl (funext fun k => by rw [j_uj, if_neg (by unfold ca; omega)]) (funext fun k => by rw [j_uj, if_neg (by unfold ca; omega)])
theorem c_S_order {g : Gx} {h : Hp} {o d : Nat} {p : Nat → Nat} {s : St} {Q : Option Value → Hp → Prop} (P : PC g h o p s) (I : Inv s) (n : Int32) (hQ : ∀ h1, hp_fr (inC o) h h1 → PC g h1 o p s → Q (some (.int (orS s n))) h1) : Ct g M_S_order (d + 5) 0 0 [.ref o, .int n] h Q := by
  have S := pc_S P
  have bT := v_told I
  have bL := v_lkr I
  refine ct_of ok_S_order (by decide) (Nat.le_of_ble_eq_true rfl) [some (.ref o), some (.int n), none] rfl rfl ?_
  refine k_iload_n rfl rfl ?_
  refine k_i2l rfl ?_
  refine k_lconst (v := lN 0) rfl (by decide) ?_
  refine k_aload_n rfl rfl ?_
  refine k_gI rfl rfl (sc_o S) (pc_told P) ?_
  refine k_iconst (v := nI 1) rfl (by decide) ?_
  refine k_isub rfl ?_
  refine k_i2l rfl ?_
  refine k_cS3 rfl cw_S_isWithin wd_161 (by decide) (Nat.le_of_ble_eq_true rfl) ?_
  refine c_S_isWithin _ _ _ ?_
  rw [wi_isc (by omega)]
  refine kb_ne rfl (fun hin => ?_) (fun hin => ?_)
  · refine k_iconst (v := nI 0) rfl (by decide) ?_
    refine k_ist2 rfl rfl ?_
    suffices H : ∀ (q i : Nat) (h1 : Hp), i + q = s_told s → hp_fr (inC o) h h1 → PC g h1 o p s → (∀ i1, i1 < i → hp_j h1 (ca o (p i1)) 8 = lN (rk s i1)) → Om g M_S_order (d + 5) Q h1 20 [some (.ref o), some (.int n), some (.int (nI i))] [] from H _ 0 h (Nat.zero_add _) fr_rf P (fun i1 hi1 => absurd hi1 (Nat.not_lt_zero _))
    intro q
    induction q with
    | zero =>
      intro i h1 hi hF P hst
      have S := pc_S P
      have ei : i = s_told s := by omega
      subst ei
      refine k_iload_n rfl rfl ?_
      refine k_aload_n rfl rfl ?_
      refine k_gI rfl rfl (sc_o S) (pc_told P) ?_
      refine kn_ge rfl (by omega) (by omega) (fun c25 => ?_) (fun c25 => ?_)
      · refine k_iconst (v := nI 0) rfl (by decide) ?_
        refine k_ist2 rfl rfl ?_
        suffices H3 : ∀ (q k : Nat), k + q = s_told s → orF s n (s_told s) 0 = orF s n q k → Om g M_S_order (d + 5) Q h1 55 [some (.ref o), some (.int n), some (.int (nI k))] [] from H3 _ 0 (Nat.zero_add _) rfl
        intro q
        induction q with
        | zero =>
          intro k hk0 e
          refine k_iload_n rfl rfl ?_
          refine k_aload_n rfl rfl ?_
          refine k_gI rfl rfl (sc_o S) (pc_told P) ?_
          refine kn_ge rfl (by omega) (by omega) (fun c60 => ?_) (fun c60 => ?_)
          · refine k_iconst (v := -1) rfl (by decide) ?_
            refine k_iret rfl rfl (Nat.le_refl _) (Nat.le_refl _) ?_
            have e9 := hQ h1 hF P
            unfold orS at e9
            rw [hin, e] at e9
            exact e9
          · exact absurd c60 (by omega)
        | succ q ih =>
          intro k hk0 e
          have hkt : k < s_told s := by omega
          have hpk := (pc_m P).1 k (by omega)
          simp only [orF] at e
          refine k_iload_n rfl rfl ?_
          refine k_aload_n rfl rfl ?_
          refine k_gI rfl rfl (sc_o S) (pc_told P) ?_
          refine kn_ge rfl (by omega) (by omega) (fun c60 => ?_) (fun c60 => ?_)
          · exact absurd c60 (by omega)
          · refine k_aload_n rfl rfl ?_
            refine k_iload_n rfl rfl ?_
            refine k_cV1 rfl cw_S_countBefore wd_351 (sc_o S) rfl (by decide) (Nat.le_of_ble_eq_true rfl) ?_
            refine c_S_countBefore P I hkt hst ?_
            refine k_iload_n rfl rfl ?_
            refine k_icmp_ne rfl (fun c69 => ?_) (fun c69 => ?_)
            · rw [if_neg c69] at e
              refine k_incN2 rfl rfl ?_
              refine k_goto rfl ?_
              exact ih (k + 1) (by omega) e
            · rw [if_pos c69] at e
              refine k_aload_n rfl rfl ?_
              refine k_getR rfl rfl (sc_o S) (sc_told S) ?_
              refine k_iload_n rfl rfl ?_
              refine k_aald (q := ca o (p k)) rfl (sc_a2 S) rfl (by decide) rfl (by omega) (by decide) (pc_r P k (by omega)) ?_
              refine k_gI rfl rfl (sc_c S (p k) hpk).1 (pc_t P k hkt).1 ?_
              refine k_iret rfl rfl (Nat.le_refl _) (Nat.le_refl _) ?_
              have e9 := hQ h1 hF P
              unfold orS at e9
              rw [hin, e] at e9
              exact e9
      · exact absurd c25 (by omega)
    | succ q ih =>
      intro i h1 hi hF P hst
      have S := pc_S P
      have hit : i < s_told s := by omega
      have hpi := (pc_m P).1 i (by omega)
      refine k_iload_n rfl rfl ?_
      refine k_aload_n rfl rfl ?_
      refine k_gI rfl rfl (sc_o S) (pc_told P) ?_
      refine kn_ge rfl (by omega) (by omega) (fun c25 => ?_) (fun c25 => ?_)
      · exact absurd c25 (by omega)
      · refine k_aload_n rfl rfl ?_
        refine k_getR rfl rfl (sc_o S) (sc_told S) ?_
        refine k_iload_n rfl rfl ?_
        refine k_aald (q := ca o (p i)) rfl (sc_a2 S) rfl (by decide) rfl (by omega) (by decide) (pc_r P i (by omega)) ?_
        refine k_aload_n rfl rfl ?_
        refine k_aload_n rfl rfl ?_
        refine k_getR rfl rfl (sc_o S) (sc_told S) ?_
        refine k_iload_n rfl rfl ?_
        refine k_aald (q := ca o (p i)) rfl (sc_a2 S) rfl (by decide) rfl (by omega) (by decide) (pc_r P i (by omega)) ?_
        refine k_cV1 rfl cw_S_standingOf wd_347 (sc_o S) rfl (by decide) (Nat.le_of_ble_eq_true rfl) ?_
        refine c_S_standingOf P I hit ?_
        refine k_putL rfl rfl rfl (sc_c S (p i) hpi).1 ?_
        refine k_incN2 rfl rfl ?_
        refine k_goto rfl ?_
        refine ih (i + 1) _ (by omega) (fr_tr hF (fr_uj ⟨by unfold ca; omega, by unfold ca; omega⟩)) (pc_st P hpi) (fun i1 hi1 => ?_)
        rw [j_uj]
        by_cases e : i1 = i
        · rw [if_pos ⟨by rw [e], rfl⟩, e]
        · rw [if_neg (fun z => e (pm_ca (k := 0) (pc_m P) (by omega) (by omega) z.1))]; exact hst i1 (by omega)
  · refine k_iconst (v := -1) rfl (by decide) ?_
    refine k_iret rfl rfl (Nat.le_refl _) (Nat.le_refl _) ?_
    have e9 := hQ h fr_rf P
    unfold orS at e9
    rw [hin] at e9
    exact e9
theorem rwF_dvd (a : Nat) : ∀ q d w, w ∣ a → rwF a q d w ∣ a
  | 0, _, _, h => h
  | q + 1, d, w, h => by
    simp only [rwF]
    split
    · refine rwF_dvd a q (d + 1) _ ?_
      split
      · next z => exact Nat.dvd_of_mod_eq_zero z
      · exact h
    · exact h
theorem rwN_dvd (a : Nat) : rwN a ∣ a := rwF_dvd a _ _ _ (Nat.one_dvd a)
def sqN (k w : Nat) : Nat := k / w * w + prN k w
theorem prN_lt {k w : Nat} (h0 : 0 < w) : prN k w < w := by
  have hm := Nat.mod_lt k h0
  unfold prN
  split <;> omega
theorem sqN_div {k w : Nat} (h0 : 0 < w) : sqN k w / w = k / w := by
  unfold sqN
  rw [Nat.mul_comm, Nat.mul_add_div h0, Nat.div_eq_of_lt (prN_lt h0), Nat.add_zero]
theorem sqN_inj {k j w : Nat} (h0 : 0 < w) (e : sqN k w = sqN j w) : k = j := by
  have h1 : k / w = j / w := by
    have a1 := sqN_div (k := k) h0
    have a2 := sqN_div (k := j) h0
    rw [e] at a1
    exact a1.symm.trans a2
  have h2 : prN k w = prN j w := by
    unfold sqN at e
    rw [h1] at e
    omega
  have hk := Nat.mod_lt k h0
  have hj := Nat.mod_lt j h0
  have h3 : k % w = j % w := by
    unfold prN at h2
    rw [h1] at h2
    split at h2 <;> omega
  have d1 := Nat.div_add_mod k w
  have d2 := Nat.div_add_mod j w
  rw [h1, h3] at d1
  omega
theorem sqN_lt {k w a : Nat} (h0 : 0 < w) (hd : w ∣ a) (hk : k < a) : sqN k w < a := by
  obtain ⟨b, rfl⟩ := hd
  have h1 : k / w < b := Nat.div_lt_of_lt_mul hk
  have h2 := prN_lt (k := k) h0
  have h3 : w * (k / w + 1) ≤ w * b := Nat.mul_le_mul_left w h1
  unfold sqN
  rw [Nat.mul_comm (k / w) w]
  rw [Nat.mul_add, Nat.mul_one] at h3
  omega
theorem c_S_covers {g : Gx} {h : Hp} {o d : Nat} {p : Nat → Nat} {s : St} {Q : Option Value → Hp → Prop} (P : PC g h o p s) (I : Inv s) (c : Int32) (hQ : ∀ h1, hp_fr (inC o) h h1 → PC g h1 o p s → Q (some (.int (bI (cvS s c)))) h1) : Ct g M_S_covers (d + 2) 0 0 [.ref o, .int c] h Q := by
  have S := pc_S P
  have bT := v_told I
  have bL := v_lkr I
  refine ct_of ok_S_covers (by decide) (Nat.le_of_ble_eq_true rfl) [some (.ref o), some (.int c), none, none, none, none, none] rfl rfl ?_
  unfold cvS at hQ
  cases hp : plS s c with
  | none =>
    rw [hp] at hQ
    refine k_aload_n rfl rfl ?_
    refine k_iload_n rfl rfl ?_
    refine k_cV1 rfl cw_S_placeOf wd_173 (sc_o S) rfl (by decide) (Nat.le_of_ble_eq_true rfl) ?_
    refine c_S_placeOf P I c ?_
    rw [hp]
    refine k_ist2 rfl rfl ?_
    refine k_iload_n rfl rfl ?_
    refine k_iconst (v := -1) rfl (by decide) ?_
    refine k_icmp_ne rfl (fun c8 => ?_) (fun c8 => ?_)
    · exact absurd rfl c8
    · refine k_iconst (v := nI 0) rfl (by decide) ?_
      refine k_zret rfl rfl (by decide) (Nat.le_refl _) (Nat.le_refl _) ?_
      have e9 := hQ h fr_rf P
      rw [show (isc (nI (s_cells s)) c && (none : Option Nat).isSome) = false from Bool.and_false _] at e9
      exact e9
  | some i =>
    have hk := plS_lt hp
    have hpi := (pc_m P).1 i (by omega)
    have ha := v_ar I i hk
    have hal := ar_le I hk
    have hw1 := rwN_pos (s_ar s i)
    have hw2 := rwN_le (s_ar s i)
    have hwd := rwN_dvd (s_ar s i)
    have hic := pl_isc I hp
    rw [hp, hic] at hQ
    obtain ⟨a, ea⟩ : ∃ a, a = s_ar s i := ⟨_, rfl⟩
    obtain ⟨wd, ew⟩ : ∃ wd, wd = rwN (s_ar s i) := ⟨_, rfl⟩
    rw [← ew] at hw1 hw2 hwd
    rw [← ea] at ha hal hwd
    refine k_aload_n rfl rfl ?_
    refine k_iload_n rfl rfl ?_
    refine k_cV1 rfl cw_S_placeOf wd_173 (sc_o S) rfl (by decide) (Nat.le_of_ble_eq_true rfl) ?_
    refine c_S_placeOf P I c ?_
    rw [hp]
    refine k_ist2 rfl rfl ?_
    refine k_iload_n rfl rfl ?_
    refine k_iconst (v := -1) rfl (by decide) ?_
    refine k_icmp_ne rfl (fun c8 => ?_) (fun c8 => ?_)
    · refine k_aload_n rfl rfl ?_
      refine k_getR rfl rfl (sc_o S) (sc_told S) ?_
      refine k_iload_n rfl rfl ?_
      refine k_aald (q := ca o (p i)) rfl (sc_a2 S) rfl (by decide) rfl (by omega) (by decide) (pc_r P i (by omega)) ?_
      refine k_gI (x := nI a) rfl rfl (sc_c S (p i) hpi).1 ((pc_t P i hk).2.1.trans (by rw [ea])) ?_
      refine k_ist3 rfl rfl ?_
      refine k_iload_n rfl rfl ?_
      refine k_cS1 rfl cw_S_rowWidth wd_313 (by decide) (Nat.le_of_ble_eq_true rfl) ?_
      refine c_S_rowWidth ha.1 hal ?_
      rw [show rwN a = wd by rw [ew, ea]]
      refine k_ist4 rfl rfl ?_
      refine k_iconst (v := nI 0) rfl (by decide) ?_
      refine k_ist5 rfl rfl ?_
      suffices H : ∀ (q k : Nat) (h1 : Hp), k + q = 720 → hp_fr (fun a => a = o + 258) h h1 → hp_r h1 = hp_r h → (∀ x, x < k → hp_i h1 (o + 258) x = 0) → Om g M_S_covers (d + 2) Q h1 32 [some (.ref o), some (.int c), some (.int (nI i)), some (.int (nI a)), some (.int (nI wd)), some (.int (nI k)), none] [] from H 720 0 h rfl fr_rf rfl (fun x hx => absurd hx (Nat.not_lt_zero _))
      intro q
      induction q with
      | zero =>
        intro k h1 hk0 hF hr hz
        have ek : k = 720 := by omega
        subst ek
        refine k_iload rfl rfl ?_
        refine k_sipush (v := nI 720) rfl (by decide) ?_
        refine kn_ge rfl (by omega) (by omega) (fun c37 => ?_) (fun c37 => ?_)
        · refine k_iconst (v := nI 0) rfl (by decide) ?_
          refine k_ist5 rfl rfl ?_
          suffices H3 : ∀ (q k : Nat) (h2 : Hp) (z : Option Value), k + q = a → hp_fr (fun a => a = o + 258) h h2 → hp_r h2 = hp_r h → (∀ x, x < 720 → (∀ k1, k1 < k → sqN k1 wd ≠ x) → hp_i h2 (o + 258) x = 0) → Om g M_S_covers (d + 2) Q h2 57 [some (.ref o), some (.int c), some (.int (nI i)), some (.int (nI a)), some (.int (nI wd)), some (.int (nI k)), z] [] from H3 a 0 h1 none (Nat.zero_add _) hF hr (fun x hx _ => hz x hx)
          intro q
          induction q with
          | zero =>
            intro k h2 z hk0 hF hr hz
            have ek : k = a := by omega
            subst ek
            refine k_iload rfl rfl ?_
            refine k_iload_n rfl rfl ?_
            refine kn_ge rfl (by omega) (by omega) (fun c60 => ?_) (fun c60 => ?_)
            · refine k_iconst (v := nI 1) rfl (by decide) ?_
              refine k_zret rfl rfl (by decide) (Nat.le_refl _) (Nat.le_refl _) ?_
              exact hQ h2 (fr_mono hF (fun a e => ⟨by omega, by omega⟩)) (pc_gone P hF hr)
            · exact absurd c60 (by omega)
          | succ q ih =>
            intro k h2 z hk0 hF hr hz
            have S := sc_fr S hF (fun a _ _ k => by rw [hr])
            have hka : k < a := by omega
            have hs1 := sqN_lt (k := k) hw1 hwd hka
            have hpl := prN_lt (k := k) hw1
            refine k_iload rfl rfl ?_
            refine k_iload_n rfl rfl ?_
            refine kn_ge rfl (by omega) (by omega) (fun c60 => ?_) (fun c60 => ?_)
            · exact absurd c60 (by omega)
            · refine k_iload rfl rfl ?_
              refine k_iload rfl rfl ?_
              refine k_cS2 rfl cw_S_rowOf wd_319 (by decide) (Nat.le_of_ble_eq_true rfl) ?_
              refine c_S_rowOf (by omega) hw1 (by omega) ?_
              refine k_iload rfl rfl ?_
              refine k_imulN rfl ?_
              refine k_iload rfl rfl ?_
              refine k_iload rfl rfl ?_
              refine k_cS2 rfl cw_S_placeInRow wd_316 (by decide) (Nat.le_of_ble_eq_true rfl) ?_
              refine c_S_placeInRow (by omega) hw1 (by omega) ?_
              refine k_iaddN rfl ?_
              change Om g M_S_covers (d + 2) Q h2 81 _ [.int (nI (sqN k wd))]
              refine k_ist6 rfl rfl ?_
              refine k_iload rfl rfl ?_
              refine k_i2l rfl ?_
              refine k_lconst (v := lN 0) rfl (by decide) ?_
              refine k_iload_n rfl rfl ?_
              refine k_iconst (v := nI 1) rfl (by decide) ?_
              refine k_isub rfl ?_
              refine k_i2l rfl ?_
              refine k_cS3 rfl cw_S_isWithin wd_161 (by decide) (Nat.le_of_ble_eq_true rfl) ?_
              refine c_S_isWithin _ _ _ ?_
              rw [wi_isc (by omega), isc_t (nI_pos (by omega)) (nI_lt hs1 (by omega))]
              refine kb_eq rfl (fun c94 => ?_) (fun c94 => ?_)
              · cases c94
              · refine k_aload_n rfl rfl ?_
                refine k_getR rfl rfl (sc_o S) (sc_gone S) ?_
                refine k_iload rfl rfl ?_
                refine k_zA (x := 0) rfl (sc_a258 S) rfl (show sqN k wd < 720 by omega) (by decide) (hz _ (by omega) (fun k1 hk1 e => by have := sqN_inj hw1 e; omega)) ?_
                refine k_if_eq rfl (fun c104 => ?_) (fun c104 => ?_)
                · refine k_aload_n rfl rfl ?_
                  refine k_getR rfl rfl (sc_o S) (sc_gone S) ?_
                  refine k_iload rfl rfl ?_
                  refine k_iconst (v := nI 1) rfl (by decide) ?_
                  refine k_zS rfl (sc_a258 S) rfl (show sqN k wd < 720 by omega) (by decide) rfl ?_
                  refine k_incN5 rfl rfl ?_
                  refine k_goto rfl ?_
                  refine ih (k + 1) _ _ (by omega) (fr_tr hF (fr_ui rfl)) hr (fun x hx hn => ?_)
                  rw [i_ui, if_neg (fun z => hn k (by omega) z.2.symm)]
                  exact hz x hx (fun k1 hk1 => hn k1 (by omega))
                · exact absurd rfl c104
        · exact absurd c37 (by omega)
      | succ q ih =>
        intro k h1 hk0 hF hr hz
        have S := sc_fr S hF (fun a _ _ k => by rw [hr])
        refine k_iload rfl rfl ?_
        refine k_sipush (v := nI 720) rfl (by decide) ?_
        refine kn_ge rfl (by omega) (by omega) (fun c37 => ?_) (fun c37 => ?_)
        · exact absurd c37 (by omega)
        · refine k_aload_n rfl rfl ?_
          refine k_getR rfl rfl (sc_o S) (sc_gone S) ?_
          refine k_iload rfl rfl ?_
          refine k_iconst (v := nI 0) rfl (by decide) ?_
          refine k_zS rfl (sc_a258 S) rfl (by omega) (by decide) rfl ?_
          refine k_incN5 rfl rfl ?_
          refine k_goto rfl ?_
          refine ih (k + 1) _ (by omega) (fr_tr hF (fr_ui rfl)) hr (fun x hx => ?_)
          rw [i_ui]
          by_cases e : x = k
          · rw [if_pos ⟨rfl, e⟩]; rfl
          · rw [if_neg (fun z => e z.2)]; exact hz x (by omega)
    · exact absurd c8 (nI_m1 (by omega))
