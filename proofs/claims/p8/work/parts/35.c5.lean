theorem wi_t {x a b : Int64} (h : (decide (a ≤ x) && decide (x ≤ b)) = true) : ¬ x < a ∧ ¬ b < x := by
  simp only [Bool.and_eq_true, decide_eq_true_eq] at h
  exact ⟨Int64.not_lt.mpr h.1, Int64.not_lt.mpr h.2⟩
theorem wi_f {x a b : Int64} (h : (decide (a ≤ x) && decide (x ≤ b)) = false) : x < a ∨ b < x := by
  by_cases h1 : a ≤ x
  · right
    rw [decide_eq_true h1, Bool.true_and] at h
    exact Int64.not_le.mp (of_decide_eq_false h)
  · exact Or.inl (Int64.not_le.mp h1)
theorem c_S_thing {g : Gx} {h : Hp} {o d : Nat} {p : Nat → Nat} {s : St} {Q : Option Value → Hp → Prop} (P : PC g h o p s) (I : Inv s) (hQ : ∀ h1 p1, hp_fr (inC o) h h1 → PC g h1 o p1 (thS s).2 → Q (some (.int ((thS s).1))) h1) : Ct g M_S_thing (d + 1) 0 0 [.ref o] h Q := by
  have S := pc_S P
  have bT := v_told I
  have bL := v_lkr I
  refine ct_of ok_S_thing (by decide) (Nat.le_of_ble_eq_true rfl) [some (.ref o), none] rfl rfl ?_
  have N := pn_of P
  have hth := v_things I
  have x : hp_fr (inC o) h (hp_ui h o 6 (nI (s_things s + 1))) := fr_ui ⟨by omega, by omega⟩
  have hr : hp_r (hp_ui h o 6 (nI (s_things s + 1))) = hp_r h := rfl
  have E : ∀ a j, ¬ (a = o ∧ j = 6) → hp_i (hp_ui h o 6 (nI (s_things s + 1))) a j = hp_i h a j := fun a j z => by rw [i_ui, if_neg z]
  have Ej : ∀ a j, True → hp_j (hp_ui h o 6 (nI (s_things s + 1))) a j = hp_j h a j := fun _ _ _ => rfl
  have N1 : PN g (hp_ui h o 6 (nI (s_things s + 1))) o p (w_things s (s_things s + 1)) := ⟨(sc_fr (pn_S N) x (fun a _ _ k => by rw [hr])), (fun i hi => by rw [hr]; exact pn_r N i hi), ⟨pn_m N, pn_40 (s := s) N⟩, (fun i hi => by
  have hi : i < s_told s := hi
  have hb := (pn_m N).1 i (by have := pn_40 N; omega)
  exact cN_tr (s := s) (pn_t N i hi) (fun k hk _ j => E _ j (by (try unfold ca); (try unfold la); omega))), (fun i hi h4 => by
  have hi : s_told s ≤ i := hi
  have hb := (pn_m N).1 i h4
  exact cF_tr (pn_f N i hi h4) (fun k hk j _ => E _ j (by (try unfold ca); (try unfold la); omega))), (fun j hj y hy => (E _ y (by (try unfold ca); (try unfold la); omega)).trans (pn_z N j hj y hy)), (fun y hy => (E _ y (by (try unfold ca); (try unfold la); omega)).trans (pn_rt (s := s) N y hy)), (fun y hy => lQ_cg (lQ_tr (s := s) (pn_l N y hy) (fun j _ => E _ j (by (try unfold ca); (try unfold la); omega)) (fun j => E _ j (by (try unfold ca); (try unfold la); omega))) rfl rfl rfl), (gT_cg (gT_tr (s := s) (pn_g N) (fun k k1 k2 j => E _ j (by (try unfold ca); (try unfold la); omega)) (fun j => Ej _ j trivial)) rfl rfl rfl rfl rfl), ((E o 0 (by (try unfold ca); (try unfold la); omega)).trans (pn_cells (s := s) N)), ((E o 2 (by (try unfold ca); (try unfold la); omega)).trans (pn_told (s := s) N)), ((E o 4 (by (try unfold ca); (try unfold la); omega)).trans (pn_lkr (s := s) N)), (i_ui.trans (if_pos ⟨rfl, rfl⟩)), ((E o 8 (by (try unfold ca); (try unfold la); omega)).trans (pn_seen (s := s) N)), ((Ej o 9 trivial).trans (pn_ab (s := s) N)), ((Ej o 10 trivial).trans (pn_bl (s := s) N))⟩
  unfold thS at hQ
  refine k_aload_n rfl rfl ?_
  refine k_gI rfl rfl (sc_o S) (pc_things P) ?_
  refine k_iconst (v := nI 4) rfl (by decide) ?_
  refine kn_lt rfl (by omega) (by omega) (fun c5 => ?_) (fun c5 => ?_)
  · rw [if_neg (by omega)] at hQ
    refine k_aload_n rfl rfl ?_
    refine k_gI rfl rfl (sc_o S) (pc_things P) ?_
    refine k_ist1 rfl rfl ?_
    refine k_aload_n rfl rfl ?_
    refine k_dup rfl rfl ?_
    refine k_gI rfl rfl (sc_o S) (pc_things P) ?_
    refine k_iconst (v := nI 1) rfl (by decide) ?_
    refine k_iaddN rfl ?_
    refine k_putI rfl rfl rfl (sc_o S) ?_
    refine k_aload_n rfl rfl ?_
    refine k_cV0 rfl cw_S_dropPlan wd_177 (sc_o S) rfl (by decide) (Nat.le_of_ble_eq_true rfl) ?_
    refine c_S_dropPlan N1 (fun h2 x2 P2 => ?_)
    refine k_iload_n rfl rfl ?_
    refine k_iret rfl rfl (Nat.le_refl _) (Nat.le_refl _) ?_
    exact hQ h2 p (fr_tr x x2) P2
  · rw [if_pos (by omega)] at hQ
    refine k_iconst (v := -1) rfl (by decide) ?_
    refine k_iret rfl rfl (Nat.le_refl _) (Nat.le_refl _) ?_
    exact hQ h p fr_rf P
theorem c_S_stop {g : Gx} {h : Hp} {o d : Nat} {p : Nat → Nat} {s : St} {Q : Option Value → Hp → Prop} (P : PC g h o p s) (I : Inv s) (a b : Int64) (hQ : ∀ h1 p1, hp_fr (inC o) h h1 → PC g h1 o p1 (spS s a b).2 → Q (some (.int (bI (spS s a b).1))) h1) : Ct g M_S_stop (d + 1) 0 0 [.ref o, .long a, .long b] h Q := by
  have S := pc_S P
  have bT := v_told I
  have bL := v_lkr I
  refine ct_of ok_S_stop (by decide) (Nat.le_of_ble_eq_true rfl) [some (.ref o), some (.long a), none, some (.long b), none] rfl rfl ?_
  have N := pn_of P
  have x : hp_fr (inC o) h (hp_uj (hp_uj h o 9 a) o 10 b) := fr_tr (fr_uj ⟨by omega, by omega⟩) (fr_uj ⟨by omega, by omega⟩)
  have hr : hp_r (hp_uj (hp_uj h o 9 a) o 10 b) = hp_r h := rfl
  have E : ∀ (a1 j : Nat), (o = o) → hp_i (hp_uj (hp_uj h o 9 a) o 10 b) a1 j = hp_i h a1 j := fun _ _ _ => rfl
  have Ej : ∀ a1 j, ¬ (a1 = o) → hp_j (hp_uj (hp_uj h o 9 a) o 10 b) a1 j = hp_j h a1 j := fun a1 j z => by rw [j_uj, if_neg (fun y => z y.1), j_uj, if_neg (fun y => z y.1)]
  have N1 : ¬ a < 0 → ¬ b < 0 → PN g (hp_uj (hp_uj h o 9 a) o 10 b) o p (w_bl (w_ab s (LN a)) (LN b)) := fun z0 z1 => ⟨(sc_fr (pn_S N) x (fun a _ _ k => by rw [hr])), (fun i hi => by rw [hr]; exact pn_r N i hi), ⟨pn_m N, pn_40 (s := s) N⟩, (fun i hi => by
  have hi : i < s_told s := hi
  have hb := (pn_m N).1 i (by have := pn_40 N; omega)
  exact cN_tr (s := s) (pn_t N i hi) (fun k hk _ j => E _ j (by (try unfold ca); (try unfold la); omega))), (fun i hi h4 => by
  have hi : s_told s ≤ i := hi
  have hb := (pn_m N).1 i h4
  exact cF_tr (pn_f N i hi h4) (fun k hk j _ => E _ j (by (try unfold ca); (try unfold la); omega))), (fun j hj y hy => (E _ y (by (try unfold ca); (try unfold la); omega)).trans (pn_z N j hj y hy)), (fun y hy => (E _ y (by (try unfold ca); (try unfold la); omega)).trans (pn_rt (s := s) N y hy)), (fun y hy => lQ_cg (lQ_tr (s := s) (pn_l N y hy) (fun j _ => E _ j (by (try unfold ca); (try unfold la); omega)) (fun j => E _ j (by (try unfold ca); (try unfold la); omega))) rfl rfl rfl), (gT_cg (gT_tr (s := s) (pn_g N) (fun k k1 k2 j => E _ j (by (try unfold ca); (try unfold la); omega)) (fun j => Ej _ j (by (try unfold ca); (try unfold la); omega))) rfl rfl rfl rfl rfl), ((E o 0 (by (try unfold ca); (try unfold la); omega)).trans (pn_cells (s := s) N)), ((E o 2 (by (try unfold ca); (try unfold la); omega)).trans (pn_told (s := s) N)), ((E o 4 (by (try unfold ca); (try unfold la); omega)).trans (pn_lkr (s := s) N)), ((E o 6 (by (try unfold ca); (try unfold la); omega)).trans (pn_things (s := s) N)), ((E o 8 (by (try unfold ca); (try unfold la); omega)).trans (pn_seen (s := s) N)), ((j_uj.trans ((if_neg (by omega)).trans (j_uj.trans (if_pos ⟨rfl, rfl⟩)))).trans (LN_of z0).1), ((j_uj.trans (if_pos ⟨rfl, rfl⟩)).trans (LN_of z1).1)⟩
  unfold spS at hQ
  refine k_lload_n rfl rfl ?_
  refine k_lconst (v := lN 1) rfl (by decide) ?_
  refine k_ldc2 rfl wd_228 ?_
  refine k_cS3 rfl cw_S_isWithin wd_161 (by decide) (Nat.le_of_ble_eq_true rfl) ?_
  refine c_S_isWithin _ _ _ ?_
  refine kb_eq rfl (fun c8 => ?_) (fun c8 => ?_)
  · refine k_iconst (v := nI 0) rfl (by decide) ?_
    refine k_zret rfl rfl (by decide) (Nat.le_refl _) (Nat.le_refl _) ?_
    have y := wi_f c8
    rw [← lN1] at y
    rw [if_pos (by rcases y with z | z
                   · exact Or.inr (Or.inr (Or.inl z))
                   · exact Or.inr (Or.inr (Or.inr z)))] at hQ
    exact hQ h p fr_rf P
  · refine k_lload_n rfl rfl ?_
    refine k_lconst (v := lN 0) rfl (by decide) ?_
    refine k_lload_n rfl rfl ?_
    refine k_cS3 rfl cw_S_isWithin wd_161 (by decide) (Nat.le_of_ble_eq_true rfl) ?_
    refine c_S_isWithin _ _ _ ?_
    refine kb_ne rfl (fun c17 => ?_) (fun c17 => ?_)
    · obtain ⟨y1, y2⟩ := wi_t c8
      obtain ⟨y3, y4⟩ := wi_t c17
      rw [← lN1] at y1
      rw [← lN0] at y3
      have y5 : ¬ b < 0 := nneg (b := 1) (by decide) (by rw [← lN1]; exact y1)
      rw [if_neg (by rintro (z | z | z | z)
                     · exact y3 z
                     · exact y4 z
                     · exact y1 z
                     · exact y2 z)] at hQ
      refine k_aload_n rfl rfl ?_
      refine k_lload_n rfl rfl ?_
      refine k_putL rfl rfl rfl (sc_o S) ?_
      refine k_aload_n rfl rfl ?_
      refine k_lload_n rfl rfl ?_
      refine k_putL rfl rfl rfl (sc_o S) ?_
      refine k_aload_n rfl rfl ?_
      refine k_cV0 rfl cw_S_dropPlan wd_177 (sc_o S) rfl (by decide) (Nat.le_of_ble_eq_true rfl) ?_
      refine c_S_dropPlan (N1 y3 y5) (fun h2 x2 P2 => ?_)
      refine k_iconst (v := nI 1) rfl (by decide) ?_
      refine k_zret rfl rfl (by decide) (Nat.le_refl _) (Nat.le_refl _) ?_
      exact hQ h2 p (fr_tr x x2) P2
    · refine k_iconst (v := nI 0) rfl (by decide) ?_
      refine k_zret rfl rfl (by decide) (Nat.le_refl _) (Nat.le_refl _) ?_
      have y := wi_f c17
      rw [← lN0] at y
      rw [if_pos (by rcases y with z | z
                     · exact Or.inl z
                     · exact Or.inr (Or.inl z))] at hQ
      exact hQ h p fr_rf P
theorem c_S_seen {g : Gx} {h : Hp} {o d : Nat} {p : Nat → Nat} {s : St} {Q : Option Value → Hp → Prop} (P : PC g h o p s) (I : Inv s) (c b : Int32) (hQ : ∀ h1 p1, hp_fr (inC o) h h1 → PC g h1 o p1 (seS s c b).2 → Q (some (.int (bI (seS s c b).1))) h1) : Ct g M_S_seen (d + 1) 0 0 [.ref o, .int c, .int b] h Q := by
  have S := pc_S P
  have bT := v_told I
  have bL := v_lkr I
  refine ct_of ok_S_seen (by decide) (Nat.le_of_ble_eq_true rfl) [some (.ref o), some (.int c), some (.int b), none] rfl rfl ?_
  have N := pn_of P
  have hcb := v_cells I
  unfold seS at hQ
  cases hp : plS s c with
  | none =>
    rw [hp] at hQ
    refine k_aload_n rfl rfl ?_
    refine k_iload_n rfl rfl ?_
    refine k_cV1 rfl cw_S_placeOf wd_173 (sc_o S) rfl (by decide) (Nat.le_of_ble_eq_true rfl) ?_
    refine c_S_placeOf P I c ?_
    rw [hp]
    refine k_ist3 rfl rfl ?_
    refine k_iload_n rfl rfl ?_
    refine k_iconst (v := -1) rfl (by decide) ?_
    refine k_icmp_eq rfl (fun c8 => ?_) (fun c8 => ?_)
    · refine k_iconst (v := nI 0) rfl (by decide) ?_
      refine k_zret rfl rfl (by decide) (Nat.le_refl _) (Nat.le_refl _) ?_
      exact hQ h p fr_rf P
    · exact absurd rfl c8
  | some i =>
    have hk := plS_lt hp
    have hpi := (pc_m P).1 i (by omega)
    have hec : nI (s_num s i) = c := (plc_some _ _ _ hp).2.2
    have bK := v_lks I
    have hct := v_cn I 0 i (by decide) hk
    rw [hp] at hQ
    simp only at hQ
    have x : hp_fr (inC o) h (hp_ui h o 8 c) := fr_ui ⟨by omega, by omega⟩
    have hr : hp_r (hp_ui h o 8 c) = hp_r h := rfl
    have E : ∀ a j, ¬ (a = o ∧ j = 8) → hp_i (hp_ui h o 8 c) a j = hp_i h a j := fun a j z => by rw [i_ui, if_neg z]
    have Ej : ∀ (a j : Nat), (o = o) → hp_j (hp_ui h o 8 c) a j = hp_j h a j := fun _ _ _ => rfl
    have N1 : PN g (hp_ui h o 8 c) o p (w_seen s (some (s_num s i))) := ⟨(sc_fr (pn_S N) x (fun a _ _ k => by rw [hr])), (fun i hi => by rw [hr]; exact pn_r N i hi), ⟨pn_m N, pn_40 (s := s) N⟩, (fun i hi => by
      have hi : i < s_told s := hi
      have hb := (pn_m N).1 i (by have := pn_40 N; omega)
      exact cN_tr (s := s) (pn_t N i hi) (fun k hk _ j => E _ j (by (try unfold ca); (try unfold la); omega))), (fun i hi h4 => by
      have hi : s_told s ≤ i := hi
      have hb := (pn_m N).1 i h4
      exact cF_tr (pn_f N i hi h4) (fun k hk j _ => E _ j (by (try unfold ca); (try unfold la); omega))), (fun j hj y hy => (E _ y (by (try unfold ca); (try unfold la); omega)).trans (pn_z N j hj y hy)), (fun y hy => (E _ y (by (try unfold ca); (try unfold la); omega)).trans (pn_rt (s := s) N y hy)), (fun y hy => lQ_cg (lQ_tr (s := s) (pn_l N y hy) (fun j _ => E _ j (by (try unfold ca); (try unfold la); omega)) (fun j => E _ j (by (try unfold ca); (try unfold la); omega))) rfl rfl rfl), (gT_cg (gT_tr (s := s) (pn_g N) (fun k k1 k2 j => E _ j (by (try unfold ca); (try unfold la); omega)) (fun j => Ej _ j (by (try unfold ca); (try unfold la); omega))) rfl rfl rfl rfl rfl), ((E o 0 (by (try unfold ca); (try unfold la); omega)).trans (pn_cells (s := s) N)), ((E o 2 (by (try unfold ca); (try unfold la); omega)).trans (pn_told (s := s) N)), ((E o 4 (by (try unfold ca); (try unfold la); omega)).trans (pn_lkr (s := s) N)), ((E o 6 (by (try unfold ca); (try unfold la); omega)).trans (pn_things (s := s) N)), ((i_ui.trans (if_pos ⟨rfl, rfl⟩)).trans hec.symm), ((Ej o 9 (by (try unfold ca); (try unfold la); omega)).trans (pn_ab (s := s) N)), ((Ej o 10 (by (try unfold ca); (try unfold la); omega)).trans (pn_bl (s := s) N))⟩
    refine k_aload_n rfl rfl ?_
    refine k_iload_n rfl rfl ?_
    refine k_cV1 rfl cw_S_placeOf wd_173 (sc_o S) rfl (by decide) (Nat.le_of_ble_eq_true rfl) ?_
    refine c_S_placeOf P I c ?_
    rw [hp]
    refine k_ist3 rfl rfl ?_
    refine k_iload_n rfl rfl ?_
    refine k_iconst (v := -1) rfl (by decide) ?_
    refine k_icmp_eq rfl (fun c8 => ?_) (fun c8 => ?_)
    · exact absurd c8 (nI_m1 (by omega))
    · refine k_aload_n rfl rfl ?_
      refine k_iload_n rfl rfl ?_
      refine k_cV1 rfl cw_S_isLooker wd_212 (sc_o S) rfl (by decide) (Nat.le_of_ble_eq_true rfl) ?_
      refine c_S_isLooker P I b ?_
      refine kb_eq rfl (fun c16 => ?_) (fun c16 => ?_)
      · refine k_iconst (v := nI 0) rfl (by decide) ?_
        refine k_zret rfl rfl (by decide) (Nat.le_refl _) (Nat.le_refl _) ?_
        rw [c16, Bool.false_and, Bool.false_and, Bool.false_and] at hQ
        exact hQ h p fr_rf P
      · obtain ⟨b0, hb0, eb, ecl⟩ := isc_of (by omega) c16
        refine k_aload_n rfl rfl ?_
        refine k_gI rfl rfl (sc_o S) (pc_seen P) ?_
        refine k_iconst (v := -1) rfl (by decide) ?_
        refine k_icmp_eq rfl (fun c24 => ?_) (fun c24 => ?_)
        · have hse : s_seen s = none := by
            cases hs : s_seen s with
            | none => rfl
            | some q => rw [hs] at c24; exact absurd c24 (nI_m1 (by have := v_seen I q hs; omega))
          have hlb := v_ld I b0 i (by omega) hk
          refine k_aload_n rfl rfl ?_
          refine k_getR rfl rfl (sc_o S) (sc_told S) ?_
          refine k_iload_n rfl rfl ?_
          refine k_aald (q := ca o (p i)) rfl (sc_a2 S) rfl (by decide) rfl (by omega) (by decide) (pc_r P i (by omega)) ?_
          refine k_getR rfl rfl (sc_c S (p i) hpi).1 (sc_c S (p i) hpi).2.2.2.2.2.2.2.2.2.1 ?_
          refine k_iload_n rfl rfl ?_
          refine k_iA rfl (sc_c S (p i) hpi).2.2.2.1 (j := b0) eb (by omega) (by decide) ((pc_t P i hk).2.2.2.2.2 b0 (by omega)) ?_
          refine k_if_eq rfl (fun c40 => ?_) (fun c40 => ?_)
          · refine k_iconst (v := nI 0) rfl (by decide) ?_
            refine k_zret rfl rfl (by decide) (Nat.le_refl _) (Nat.le_refl _) ?_
            rw [c16, hse, ecl, decide_eq_true ((nI_eq (b := 0) (by omega) (by decide)).mp c40)] at hQ
            simp only [Option.isNone, Bool.not_true, Bool.and_false, Bool.false_and, cond_false] at hQ
            exact hQ h p fr_rf P
          · refine k_aload_n rfl rfl ?_
            refine k_getR rfl rfl (sc_o S) (sc_told S) ?_
            refine k_iload_n rfl rfl ?_
            refine k_aald (q := ca o (p i)) rfl (sc_a2 S) rfl (by decide) rfl (by omega) (by decide) (pc_r P i (by omega)) ?_
            refine k_getR rfl rfl (sc_c S (p i) hpi).1 (sc_c S (p i) hpi).2.2.2.2.2.2.2.1 ?_
            refine k_iconst (v := nI 0) rfl (by decide) ?_
            refine k_iA rfl (sc_c S (p i) hpi).2.1 (j := 0) rfl (by decide) (by decide) ((pc_t P i hk).2.2.2.1 0 (by decide)) ?_
            refine k_if_ne rfl (fun c54 => ?_) (fun c54 => ?_)
            · refine k_aload_n rfl rfl ?_
              refine k_iload_n rfl rfl ?_
              refine k_putI rfl rfl rfl (sc_o S) ?_
              refine k_aload_n rfl rfl ?_
              refine k_cV0 rfl cw_S_dropPlan wd_177 (sc_o S) rfl (by decide) (Nat.le_of_ble_eq_true rfl) ?_
              refine c_S_dropPlan N1 (fun h2 x2 P2 => ?_)
              refine k_iconst (v := nI 1) rfl (by decide) ?_
              refine k_zret rfl rfl (by decide) (Nat.le_refl _) (Nat.le_refl _) ?_
              rw [c16, hse, ecl, decide_eq_false (fun z => c40 (by rw [z]; rfl)), decide_eq_false (fun z => c54 (by rw [z]; rfl))] at hQ
              exact hQ h2 p (fr_tr x x2) P2
            · refine k_iconst (v := nI 0) rfl (by decide) ?_
              refine k_zret rfl rfl (by decide) (Nat.le_refl _) (Nat.le_refl _) ?_
              rw [c16, hse, ecl, decide_eq_true ((nI_eq (b := 0) (by omega) (by decide)).mp c54)] at hQ
              simp only [Bool.not_true, Bool.and_false, cond_false] at hQ
              exact hQ h p fr_rf P
        · refine k_iconst (v := nI 0) rfl (by decide) ?_
          refine k_zret rfl rfl (by decide) (Nat.le_refl _) (Nat.le_refl _) ?_
          have hse : (s_seen s).isNone = false := by
            cases hs : s_seen s with
            | none => rw [hs] at c24; exact absurd rfl c24
            | some q => rfl
          rw [c16, hse, Bool.and_false, Bool.false_and, Bool.false_and] at hQ
          exact hQ h p fr_rf P
theorem usN_all {s : St} {l : Nat} : ∀ n, (∀ q, q < n → s_bd s l q = false) → usN s l n = n
  | 0, _ => rfl
  | n + 1, e => by simp only [usN]; rw [usN_all n (fun q hq => e q (by omega)), e n (by omega)]; rfl
theorem c_L_begin {g : Gx} {h : Hp} {a d : Nat} {Q : Option Value → Hp → Prop} (ho : isO g h a 2) (x : Int32) (hQ : Q none (hp_ui (hp_ui h a 1 x) a 2 x)) : Ct g M_L_begin d 0 0 [.ref a, .int x] h Q := by
  refine ct_of ok_L_begin (by decide) (Nat.le_of_ble_eq_true rfl) [some (.ref a), some (.int x)] rfl rfl ?_
  refine k_aload_n rfl rfl ?_
  refine k_iload_n rfl rfl ?_
  refine k_putI rfl rfl rfl ho ?_
  refine k_aload_n rfl rfl ?_
  refine k_iload_n rfl rfl ?_
  refine k_putI rfl rfl rfl ho ?_
  refine k_vret rfl rfl (Nat.le_refl _) (Nat.le_refl _) ?_
  exact hQ
theorem c_S_looker {g : Gx} {h : Hp} {o d : Nat} {p : Nat → Nat} {s : St} {Q : Option Value → Hp → Prop} (P : PC g h o p s) (I : Inv s) (a b : Int64) (q : Int32) (hQ : ∀ h1 p1, hp_fr (inC o) h h1 → PC g h1 o p1 (lrS s a b q).2 → Q (some (.int ((lrS s a b q).1))) h1) : Ct g M_S_looker (d + 1) 0 0 [.ref o, .long a, .long b, .int q] h Q := by
  have S := pc_S P
  have bT := v_told I
  have bL := v_lkr I
  refine ct_of ok_S_looker (by decide) (Nat.le_of_ble_eq_true rfl) [some (.ref o), some (.long a), none, some (.long b), none, some (.int q), none] rfl rfl ?_
  have N := pn_of P
  have bK := v_lks I
  have x : hp_fr (inC o) h (hp_ui (hp_ui (hp_ui (hp_ui h (o + 1) (s_lkr s) (nI (LN a * LN b))) (la o (s_lkr s)) 1 q) (la o (s_lkr s)) 2 q) o 4 (nI (s_lkr s + 1))) := fr_tr (fr_tr (fr_tr (fr_ui ⟨by omega, by omega⟩) (fr_ui ⟨by unfold la; omega, by unfold la; omega⟩)) (fr_ui ⟨by unfold la; omega, by unfold la; omega⟩)) (fr_ui ⟨by omega, by omega⟩)
  have hr : hp_r (hp_ui (hp_ui (hp_ui (hp_ui h (o + 1) (s_lkr s) (nI (LN a * LN b))) (la o (s_lkr s)) 1 q) (la o (s_lkr s)) 2 q) o 4 (nI (s_lkr s + 1))) = hp_r h := rfl
  have E : ∀ a1 j, ¬ (a1 = o + 1 ∧ j = s_lkr s) ∧ ¬ (a1 = la o (s_lkr s) ∧ (j = 1 ∨ j = 2)) ∧ ¬ (a1 = o ∧ j = 4) → hp_i (hp_ui (hp_ui (hp_ui (hp_ui h (o + 1) (s_lkr s) (nI (LN a * LN b))) (la o (s_lkr s)) 1 q) (la o (s_lkr s)) 2 q) o 4 (nI (s_lkr s + 1))) a1 j = hp_i h a1 j := fun a1 j z => by rw [i_ui, if_neg z.2.2, i_ui, if_neg (fun y => z.2.1 ⟨y.1, Or.inr y.2⟩), i_ui, if_neg (fun y => z.2.1 ⟨y.1, Or.inl y.2⟩), i_ui, if_neg z.1]
  have Ej : ∀ (a1 j : Nat), (o = o) → hp_j (hp_ui (hp_ui (hp_ui (hp_ui h (o + 1) (s_lkr s) (nI (LN a * LN b))) (la o (s_lkr s)) 1 q) (la o (s_lkr s)) 2 q) o 4 (nI (s_lkr s + 1))) a1 j = hp_j h a1 j := fun _ _ _ => rfl
  have N1 : s_lkr s < 4 → q = nI q.toNatClampNeg → q.toNatClampNeg ≤ 24 → PN g (hp_ui (hp_ui (hp_ui (hp_ui h (o + 1) (s_lkr s) (nI (LN a * LN b))) (la o (s_lkr s)) 1 q) (la o (s_lkr s)) 2 q) o 4 (nI (s_lkr s + 1))) o p (w_lkr (w_hr (w_rt s (va_up (s_rt s) (s_lkr s) (LN a * LN b))) (va_up (s_hr s) (s_lkr s) q.toNatClampNeg)) (s_lkr s + 1)) := fun hl4 hq1 hq2 => ⟨(sc_fr (pn_S N) x (fun a _ _ k => by rw [hr])), (fun i hi => by rw [hr]; exact pn_r N i hi), ⟨pn_m N, pn_40 (s := s) N⟩, (fun i hi => by
    have hi : i < s_told s := hi
    have hb := (pn_m N).1 i (by have := pn_40 N; omega)
    exact cN_tr (s := s) (pn_t N i hi) (fun k hk _ j => E _ j (by (try unfold ca); (try unfold la); omega))), (fun i hi h4 => by
    have hi : s_told s ≤ i := hi
    have hb := (pn_m N).1 i h4
    exact cF_tr (pn_f N i hi h4) (fun k hk j _ => E _ j (by (try unfold ca); (try unfold la); omega))), (fun j hj y hy => (E _ y (by (try unfold ca); (try unfold la); omega)).trans (pn_z N j hj y hy)), (fun l hl => by
    show _ = nI (if l < s_lkr s + 1 then va_up (s_rt s) (s_lkr s) (LN a * LN b) l else 0)
    by_cases e : l = s_lkr s
    · rw [i_ui, if_neg (by omega), i_ui, if_neg (by unfold la; omega), i_ui, if_neg (by unfold la; omega), i_ui, if_pos ⟨rfl, e⟩, if_pos (by omega), e, va_up_self]
    · rw [E (o + 1) l (by unfold la; omega), pn_rt N l hl, va_up_ne _ _ e]
      by_cases e2 : l < s_lkr s
      · rw [if_pos e2, if_pos (by omega)]
      · rw [if_neg e2, if_neg (by omega)]), (fun l hl => by
    obtain ⟨a1, a3, a4, a5⟩ := pn_l N l hl
    have a4' : ∀ t, t < 24 → hp_i (hp_ui (hp_ui (hp_ui (hp_ui h (o + 1) (s_lkr s) (nI (LN a * LN b))) (la o (s_lkr s)) 1 q) (la o (s_lkr s)) 2 q) o 4 (nI (s_lkr s + 1))) (la o l + 1) t = bI (s_bd s l t) := fun t ht => (E _ t (by unfold la; omega)).trans (a4 t ht)
    by_cases e : l = s_lkr s
    · have eq1 : q = nI q.toNatClampNeg := hq1
      have hus : us (w_lkr (w_hr (w_rt s (va_up (s_rt s) (s_lkr s) (LN a * LN b))) (va_up (s_hr s) (s_lkr s) q.toNatClampNeg)) (s_lkr s + 1)) l = q.toNatClampNeg := by
        unfold us
        show usN (w_lkr (w_hr (w_rt s (va_up (s_rt s) (s_lkr s) (LN a * LN b))) (va_up (s_hr s) (s_lkr s) q.toNatClampNeg)) (s_lkr s + 1)) l (va_up (s_hr s) (s_lkr s) q.toNatClampNeg l) = _
        rw [e, va_up_self, usN_cong (s := s) (s1 := (w_lkr (w_hr (w_rt s (va_up (s_rt s) (s_lkr s) (LN a * LN b))) (va_up (s_hr s) (s_lkr s) q.toNatClampNeg)) (s_lkr s + 1))) (fun _ => rfl)]
        refine usN_all _ (fun t ht => ?_)
        rw [← e]
        exact a5 (by omega) t (by omega)
      refine ⟨fun _ => ⟨?_, ?_⟩, (E _ 4 (by unfold la; omega)).trans a3, a4', fun z => absurd (show s_lkr s + 1 ≤ l from z) (by omega)⟩
      · show _ = nI (va_up (s_hr s) (s_lkr s) q.toNatClampNeg l)
        rw [e, va_up_self, i_ui, if_neg (by unfold la; omega), i_ui, if_neg (by omega), i_ui, if_pos ⟨rfl, rfl⟩, ← hq1]
      · rw [hus, e, i_ui, if_neg (by unfold la; omega), i_ui, if_pos ⟨rfl, rfl⟩, ← hq1]
    · refine ⟨fun z => ?_, (E _ 4 (by unfold la; omega)).trans a3, a4', fun z t ht => a5 (by have z : s_lkr s + 1 ≤ l := z; omega) t ht⟩
      have z : l < s_lkr s := by have z : l < s_lkr s + 1 := z; omega
      have hus : us (w_lkr (w_hr (w_rt s (va_up (s_rt s) (s_lkr s) (LN a * LN b))) (va_up (s_hr s) (s_lkr s) q.toNatClampNeg)) (s_lkr s + 1)) l = us s l := by
        unfold us
        show usN (w_lkr (w_hr (w_rt s (va_up (s_rt s) (s_lkr s) (LN a * LN b))) (va_up (s_hr s) (s_lkr s) q.toNatClampNeg)) (s_lkr s + 1)) l (va_up (s_hr s) (s_lkr s) q.toNatClampNeg l) = _
        rw [va_up_ne _ _ e, usN_cong (s := s) (s1 := (w_lkr (w_hr (w_rt s (va_up (s_rt s) (s_lkr s) (LN a * LN b))) (va_up (s_hr s) (s_lkr s) q.toNatClampNeg)) (s_lkr s + 1))) (fun _ => rfl)]
      refine ⟨(E _ 1 (by unfold la; omega)).trans ((a1 z).1.trans ?_), (E _ 2 (by unfold la; omega)).trans ((a1 z).2.trans (by rw [hus]))⟩
      show _ = nI (va_up (s_hr s) (s_lkr s) q.toNatClampNeg l)
      rw [va_up_ne _ _ e]), (gT_cg (gT_tr (s := s) (pn_g N) (fun k k1 k2 j => E _ j (by (try unfold ca); (try unfold la); omega)) (fun j => Ej _ j (by (try unfold ca); (try unfold la); omega))) rfl rfl rfl rfl rfl), ((E o 0 (by (try unfold ca); (try unfold la); omega)).trans (pn_cells (s := s) N)), ((E o 2 (by (try unfold ca); (try unfold la); omega)).trans (pn_told (s := s) N)), (i_ui.trans (if_pos ⟨rfl, rfl⟩)), ((E o 6 (by (try unfold ca); (try unfold la); omega)).trans (pn_things (s := s) N)), ((E o 8 (by (try unfold ca); (try unfold la); omega)).trans (pn_seen (s := s) N)), ((Ej o 9 (by (try unfold ca); (try unfold la); omega)).trans (pn_ab (s := s) N)), ((Ej o 10 (by (try unfold ca); (try unfold la); omega)).trans (pn_bl (s := s) N))⟩
  unfold lrS at hQ
  refine k_aload_n rfl rfl ?_
  refine k_gI rfl rfl (sc_o S) (pc_lkr P) ?_
  refine k_iconst (v := nI 4) rfl (by decide) ?_
  refine kn_ge rfl (by omega) (by omega) (fun c5 => ?_) (fun c5 => ?_)
  · refine k_iconst (v := -1) rfl (by decide) ?_
    refine k_iret rfl rfl (Nat.le_refl _) (Nat.le_refl _) ?_
    rw [if_pos (Or.inl (by omega))] at hQ
    exact hQ h p fr_rf P
  · refine k_aload_n rfl rfl ?_
    refine k_getR rfl rfl (sc_o S) (sc_looks S) ?_
    refine k_gI rfl rfl (sc_g S).1 (pc_g P).1 ?_
    refine k_if_le rfl (fun c15 => ?_) (fun c15 => ?_)
    · have hl0 : s_lks s = 0 := by
        have := (nI_leI (b := 0) (by omega) (by decide)).mp c15
        omega
      refine k_lload_n rfl rfl ?_
      refine k_lconst (v := lN 1) rfl (by decide) ?_
      refine k_ldc2 rfl wd_168 ?_
      refine k_cS3 rfl cw_S_isWithin wd_161 (by decide) (Nat.le_of_ble_eq_true rfl) ?_
      refine c_S_isWithin _ _ _ ?_
      refine kb_eq rfl (fun c28 => ?_) (fun c28 => ?_)
      · refine k_iconst (v := -1) rfl (by decide) ?_
        refine k_iret rfl rfl (Nat.le_refl _) (Nat.le_refl _) ?_
        have y := wi_f c28
        rw [← lN1] at y
        rw [if_pos (by rcases y with z | z
                       · exact Or.inr (Or.inr (Or.inl z))
                       · exact Or.inr (Or.inr (Or.inr (Or.inl z))))] at hQ
        exact hQ h p fr_rf P
      · refine k_lload_n rfl rfl ?_
        refine k_lconst (v := lN 1) rfl (by decide) ?_
        refine k_ldc2 rfl wd_168 ?_
        refine k_cS3 rfl cw_S_isWithin wd_161 (by decide) (Nat.le_of_ble_eq_true rfl) ?_
        refine c_S_isWithin _ _ _ ?_
        refine kb_ne rfl (fun c39 => ?_) (fun c39 => ?_)
        · refine k_lload_n rfl rfl ?_
          refine k_lload_n rfl rfl ?_
          refine k_lmul rfl ?_
          refine k_ldc2 rfl wd_168 ?_
          refine kl_gt rfl rfl (fun c50 => ?_) (fun c50 => ?_)
          · refine k_iconst (v := -1) rfl (by decide) ?_
            refine k_iret rfl rfl (Nat.le_refl _) (Nat.le_refl _) ?_
            rw [if_pos (Or.inr (Or.inr (Or.inr (Or.inr (Or.inr (Or.inr (Or.inl c50)))))))] at hQ
            exact hQ h p fr_rf P
          · refine k_iload rfl rfl ?_
            refine k_i2l rfl ?_
            refine k_lconst (v := lN 1) rfl (by decide) ?_
            refine k_ldc2 rfl wd_203 ?_
            refine k_cS3 rfl cw_S_isWithin wd_161 (by decide) (Nat.le_of_ble_eq_true rfl) ?_
            refine c_S_isWithin _ _ _ ?_
            refine kb_ne rfl (fun c64 => ?_) (fun c64 => ?_)
            · obtain ⟨y1, y2⟩ := wi_t c28
              obtain ⟨y3, y4⟩ := wi_t c39
              obtain ⟨y5, y6⟩ := wi_t c64
              rw [← lN1] at y1 y3
              have z1 : ¬ q < 1 := fun z => y5 (by
                rw [Int64.lt_iff_toInt_lt, Int32.toInt_toInt64, pk_lT (by decide)]
                rw [Int32.lt_iff_toInt_lt] at z
                exact z)
              have z2 : ¬ 24 < q := fun z => y6 (by
                rw [Int64.lt_iff_toInt_lt, Int32.toInt_toInt64]
                rw [Int32.lt_iff_toInt_lt] at z
                exact z)
              have z0 : ¬ q < 0 := fun z => z1 (Int32.lt_trans z (by decide))
              obtain ⟨q0, hq0, eq0⟩ := nI_of z0
              have ecl : q.toNatClampNeg = q0 := by rw [eq0]; exact nI_clamp hq0
              have hq24 : q0 ≤ 24 := by
                rw [eq0, n24] at z2
                exact Nat.not_lt.mp (fun z => z2 (nI_lt z hq0))
              have ya : ¬ a < 0 := nneg (b := 1) (by decide) (by rw [← lN1]; exact y1)
              have yb : ¬ b < 0 := nneg (b := 1) (by decide) (by rw [← lN1]; exact y3)
              obtain ⟨ea, la1⟩ := LN_of ya
              obtain ⟨eb, lb1⟩ := LN_of yb
              have eab : a * b = lN (LN a * LN b) := by
                conv => lhs; rw [ea, eb]
                rw [lN_mul]
              have hN1 := N1 (by omega) (by rw [ecl]; exact eq0) (by omega)
              rw [if_neg (by rintro (z | z | z | z | z | z | z | z | z)
                             · omega
                             · omega
                             · exact y1 z
                             · exact y2 z
                             · exact y3 z
                             · exact y4 z
                             · exact c50 z
                             · exact z1 z
                             · exact z2 z)] at hQ
              refine k_aload_n rfl rfl ?_
              refine k_gI rfl rfl (sc_o S) (pc_lkr P) ?_
              refine k_ist6 rfl rfl ?_
              refine k_aload_n rfl rfl ?_
              refine k_getR rfl rfl (sc_o S) (sc_rates S) ?_
              refine k_iload rfl rfl ?_
              refine k_lload_n rfl rfl ?_
              refine k_lload_n rfl rfl ?_
              refine k_lmul rfl ?_
              rw [eab]
              refine k_l2iN rfl ?_
              refine k_iS rfl (sc_a1 S) rfl (by omega) (by decide) ?_
              refine k_aload_n rfl rfl ?_
              refine k_getR rfl rfl (sc_o S) (sc_lkrs S) ?_
              refine k_iload rfl rfl ?_
              refine k_aald (q := la o (s_lkr s)) rfl (sc_a243 S) rfl (by decide) rfl (by omega) (by decide) (sc_l S (s_lkr s) (by omega)).2.2.2 ?_
              refine k_iload rfl rfl ?_
              refine k_cVN1 rfl cw_L_begin (nsM (i := 3) rfl) (sc_l S (s_lkr s) (by omega)).1 rfl (by decide) (Nat.le_of_ble_eq_true rfl) ?_
              refine c_L_begin (h := hp_ui h (o + 1) (s_lkr s) (nI (LN a * LN b))) (sc_l S (s_lkr s) (by omega)).1 q ?_
              refine k_aload_n rfl rfl ?_
              refine k_dup rfl rfl ?_
              refine k_gI (x := nI (s_lkr s)) rfl rfl (sc_o S) (by rw [i_ui, if_neg (by unfold la; omega), i_ui, if_neg (by unfold la; omega), i_ui, if_neg (by omega)]; exact pc_lkr P) ?_
              refine k_iconst (v := nI 1) rfl (by decide) ?_
              refine k_iaddN rfl ?_
              refine k_putI rfl rfl rfl (sc_o S) ?_
              refine k_aload_n rfl rfl ?_
              refine k_cV0 rfl cw_S_dropPlan wd_177 (sc_o S) rfl (by decide) (Nat.le_of_ble_eq_true rfl) ?_
              refine c_S_dropPlan hN1 (fun h2 x2 P2 => ?_)
              refine k_iload rfl rfl ?_
              refine k_iret rfl rfl (Nat.le_refl _) (Nat.le_refl _) ?_
              exact hQ h2 p (fr_tr x x2) P2
            · refine k_iconst (v := -1) rfl (by decide) ?_
              refine k_iret rfl rfl (Nat.le_refl _) (Nat.le_refl _) ?_
              have y := wi_f c64
              rw [if_pos (by rcases y with z | z
                             · refine Or.inr (Or.inr (Or.inr (Or.inr (Or.inr (Or.inr (Or.inr (Or.inl ?_)))))))
                               rw [Int64.lt_iff_toInt_lt, Int32.toInt_toInt64, pk_lT (by decide)] at z
                               rw [Int32.lt_iff_toInt_lt]
                               exact z
                             · refine Or.inr (Or.inr (Or.inr (Or.inr (Or.inr (Or.inr (Or.inr (Or.inr ?_)))))))
                               rw [Int64.lt_iff_toInt_lt, Int32.toInt_toInt64] at z
                               rw [Int32.lt_iff_toInt_lt]
                               exact z)] at hQ
              exact hQ h p fr_rf P
        · refine k_iconst (v := -1) rfl (by decide) ?_
          refine k_iret rfl rfl (Nat.le_refl _) (Nat.le_refl _) ?_
          have y := wi_f c39
          rw [← lN1] at y
          rw [if_pos (by rcases y with z | z
                         · exact Or.inr (Or.inr (Or.inr (Or.inr (Or.inl z))))
                         · exact Or.inr (Or.inr (Or.inr (Or.inr (Or.inr (Or.inl z))))))] at hQ
          exact hQ h p fr_rf P
    · refine k_iconst (v := -1) rfl (by decide) ?_
      refine k_iret rfl rfl (Nat.le_refl _) (Nat.le_refl _) ?_
      rw [if_pos (Or.inr (Or.inl (Nat.pos_of_ne_zero (fun z => c15 (by rw [z]; decide)))))] at hQ
      exact hQ h p fr_rf P
theorem us_step {s s1 s2 : St} {l q : Nat} (e1 : s_bd s1 l q = true) (e2 : ∀ t, t ≠ q → s_bd s1 l t = s_bd s2 l t) : ∀ n, usN s1 l n + (if q < n ∧ s_bd s2 l q = false then 1 else 0) = usN s2 l n
  | 0 => by simp [usN]
  | n + 1 => by
    have ih := us_step (s := s) e1 e2 n
    simp only [usN]
    by_cases e : n = q
    · subst e
      rw [if_neg (by omega)] at ih
      rw [e1, if_pos rfl]
      by_cases z : s_bd s2 l n = false
      · rw [if_pos ⟨by omega, z⟩, z]
        simp only [Bool.false_eq_true, if_false]
        omega
      · rw [if_neg (fun y => z y.2)]
        have z : s_bd s2 l n = true := by simpa using z
        rw [z, if_pos rfl]
        omega
    · rw [e2 n e]
      generalize (if s_bd s2 l n = true then 0 else 1) = u
      by_cases z : q < n ∧ s_bd s2 l q = false
      · rw [if_pos z] at ih
        rw [if_pos ⟨by omega, z.2⟩]
        omega
      · rw [if_neg z] at ih
        rw [if_neg (fun y => z ⟨by omega, y.2⟩)]
        omega
theorem bdU_0 (s : St) (l f : Nat) : bdU s l f f = s_bd s := by
  funext l1 q
  unfold bdU
  have : (decide (l1 = l) && decide (f ≤ q) && decide (q < f)) = false := by
    by_cases z : f ≤ q
    · rw [decide_eq_false (show ¬ q < f by omega), Bool.and_false]
    · rw [decide_eq_false z, Bool.and_false, Bool.false_and]
  rw [this, Bool.or_false]
theorem bdU_s (s : St) {l f q : Nat} (hf : f ≤ q) : bdU s l f (q + 1) l q = true := by
  unfold bdU
  rw [decide_eq_true rfl, decide_eq_true hf, decide_eq_true (Nat.lt_succ_self q)]
  simp
theorem bdU_oth (s : St) {l f q l1 t : Nat} (h : l1 ≠ l) : bdU s l f q l1 t = s_bd s l1 t := by
  unfold bdU
  rw [decide_eq_false h, Bool.false_and, Bool.false_and, Bool.or_false]
theorem bdU_ne (s : St) {l f q l1 t : Nat} (h : l1 ≠ l ∨ t ≠ q) : bdU s l f (q + 1) l1 t = bdU s l f q l1 t := by
  unfold bdU
  congr 1
  by_cases z : l1 = l
  · have ht : t ≠ q := h.resolve_left (fun y => y z)
    congr 1
    exact decide_eq_decide.mpr (by omega)
  · rw [decide_eq_false z, Bool.false_and, Bool.false_and, Bool.false_and]
theorem c_L_takeAway {g : Gx} {h : Hp} {o d l f t : Nat} {p : Nat → Nat} {s : St} {Q : Option Value → Hp → Prop} (N : PN g h o p s) (hl4 : s_lkr s ≤ 4) (hl : l < s_lkr s) (hh : s_hr s l ≤ 24) (hf : f ≤ t) (ht : t ≤ 24) (hQ : ∀ h1, hp_fr (inC o) h h1 → PN g h1 o p (w_bd s (bdU s l f t)) → Q none h1) : Ct g M_L_takeAway (d + 1) 0 0 [.ref (la o l), .int (nI f), .int (nI t)] h Q := by
  refine ct_of ok_L_takeAway (by decide) (Nat.le_of_ble_eq_true rfl) [some (.ref (la o l)), some (.int (nI f)), some (.int (nI t)), none] rfl rfl ?_
  have S0 := pn_S N
  obtain ⟨lq1, lq2, lq3, lq4⟩ := pn_l N l (by omega)
  refine k_iload_n rfl rfl ?_
  refine k_iconst (v := nI 0) rfl (by decide) ?_
  refine k_maxN rfl wd_221 (by omega) (by omega) (Nat.le_of_ble_eq_true rfl) ?_
  rw [Nat.max_eq_left (Nat.zero_le f)]
  refine k_ist3 rfl rfl ?_
  suffices H : ∀ (k q : Nat) (h1 : Hp), q + k = t → f ≤ q → hp_fr (inC o) h h1 → hp_r h1 = hp_r h → hp_j h1 = hp_j h → (∀ a j, ¬ (a = la o l ∧ j = 2) → a ≠ la o l + 1 → hp_i h1 a j = hp_i h a j) → hp_i h1 (la o l) 2 = nI (usN (w_bd s (bdU s l f q)) l (s_hr s l)) → (∀ y, y < 24 → hp_i h1 (la o l + 1) y = bI (bdU s l f q l y)) → Om g M_L_takeAway (d + 1) Q h1 6 [some (.ref (la o l)), some (.int (nI f)), some (.int (nI t)), some (.int (nI q))] [] from
    H (t - f) f h (by omega) (Nat.le_refl _) fr_rf rfl rfl (fun _ _ _ _ => rfl) (by rw [bdU_0]; exact (lq1 hl).2) (fun y hy => by rw [bdU_0]; exact lq3 y hy)
  intro k
  induction k with
  | zero =>
    intro q h1 hq hfq hF hr hj E eu ey
    have eq1 : q = t := by omega
    subst eq1
    have x := hF
    have Ej : ∀ (a j : Nat), (o = o) → hp_j h1 a j = hp_j h a j := fun a j _ => by rw [hj]
    refine k_iload_n rfl rfl ?_
    refine k_iload_n rfl rfl ?_
    refine kn_ge rfl (by omega) (by omega) (fun c8 => ?_) (fun c8 => ?_)
    · refine k_vret rfl rfl (Nat.le_refl _) (Nat.le_refl _) ?_
      exact hQ h1 hF ⟨(sc_fr (pn_S N) x (fun a _ _ k => by rw [hr])), (fun i hi => by rw [hr]; exact pn_r N i hi), ⟨pn_m N, pn_40 (s := s) N⟩, (fun i hi => by
        have hi : i < s_told s := hi
        have hb := (pn_m N).1 i (by have := pn_40 N; omega)
        exact cN_tr (s := s) (pn_t N i hi) (fun k hk _ j => E _ j (by (try unfold ca); (try unfold la); omega) (by (try unfold ca); (try unfold la); omega))), (fun i hi h4 => by
        have hi : s_told s ≤ i := hi
        have hb := (pn_m N).1 i h4
        exact cF_tr (pn_f N i hi h4) (fun k hk j _ => E _ j (by (try unfold ca); (try unfold la); omega) (by (try unfold ca); (try unfold la); omega))), (fun j hj y hy => (E _ y (by (try unfold ca); (try unfold la); omega) (by (try unfold ca); (try unfold la); omega)).trans (pn_z N j hj y hy)), (fun y hy => (E _ y (by (try unfold ca); (try unfold la); omega) (by (try unfold ca); (try unfold la); omega)).trans (pn_rt (s := s) N y hy)), (fun l1 hl1 => by
        obtain ⟨b1, b3, b4, b5⟩ := pn_l N l1 hl1
        by_cases e : l1 = l
        · subst e
          refine ⟨fun z => ⟨(E _ 1 (by omega) (by omega)).trans (b1 z).1, eu⟩, (E _ 4 (by omega) (by omega)).trans b3, ey, fun z => absurd (show s_lkr s ≤ l1 from z) (by omega)⟩
        · refine ⟨fun z => ⟨(E _ 1 (by unfold la; omega) (by unfold la; omega)).trans (b1 z).1, ((E _ 2 (by unfold la; omega) (by unfold la; omega)).trans (b1 z).2).trans ?_⟩, (E _ 4 (by unfold la; omega) (by unfold la; omega)).trans b3, fun y hy => ((E _ y (by unfold la; omega) (by unfold la; omega)).trans (b4 y hy)).trans ?_, fun z y hy => ?_⟩
          · rw [us_cg (s := s) (s1 := w_bd s (bdU s l f q)) rfl (fun y => bdU_oth s e)]
          · show _ = bI (bdU s l f q l1 y)
            rw [bdU_oth s e]
          · show bdU s l f q l1 y = false
            rw [bdU_oth s e]; exact b5 z y hy), (gT_cg (gT_tr (s := s) (pn_g N) (fun k k1 k2 j => E _ j (by (try unfold ca); (try unfold la); omega) (by (try unfold ca); (try unfold la); omega)) (fun j => Ej _ j (by (try unfold ca); (try unfold la); omega))) rfl rfl rfl rfl rfl), ((E o 0 (by (try unfold ca); (try unfold la); omega) (by (try unfold ca); (try unfold la); omega)).trans (pn_cells (s := s) N)), ((E o 2 (by (try unfold ca); (try unfold la); omega) (by (try unfold ca); (try unfold la); omega)).trans (pn_told (s := s) N)), ((E o 4 (by (try unfold ca); (try unfold la); omega) (by (try unfold ca); (try unfold la); omega)).trans (pn_lkr (s := s) N)), ((E o 6 (by (try unfold ca); (try unfold la); omega) (by (try unfold ca); (try unfold la); omega)).trans (pn_things (s := s) N)), ((E o 8 (by (try unfold ca); (try unfold la); omega) (by (try unfold ca); (try unfold la); omega)).trans (pn_seen (s := s) N)), ((Ej o 9 (by (try unfold ca); (try unfold la); omega)).trans (pn_ab (s := s) N)), ((Ej o 10 (by (try unfold ca); (try unfold la); omega)).trans (pn_bl (s := s) N))⟩
    · exact absurd c8 (by omega)
  | succ k ih =>
    intro q h1 hq hfq hF hr hj E eu ey
    have S1 := sc_fr S0 hF (fun a _ _ k => by rw [hr])
    have L0 := sc_l S1 l (by omega)
    have a11 : hp_i h1 (la o l) 1 = nI (s_hr s l) := (E _ 1 (by omega) (by omega)).trans (lq1 hl).1
    obtain ⟨us1, eus1⟩ : ∃ u, u = usN (w_bd s (bdU s l f q)) l (s_hr s l) := ⟨_, rfl⟩
    rw [← eus1] at eu
    have hU : usN (w_bd s (bdU s l f (q + 1))) l (s_hr s l) + (if q < s_hr s l ∧ bdU s l f q l q = false then 1 else 0) = us1 := by
      rw [eus1]
      exact us_step (s := s) (s1 := w_bd s (bdU s l f (q + 1))) (s2 := w_bd s (bdU s l f q)) (bdU_s s hfq) (fun y hy => bdU_ne s (Or.inr hy)) (s_hr s l)
    have JJ : ∀ h2, hp_fr (inC o) h h2 → hp_r h2 = hp_r h → hp_j h2 = hp_j h → (∀ a j, ¬ (a = la o l ∧ j = 2) → a ≠ la o l + 1 → hp_i h2 a j = hp_i h a j) → hp_i h2 (la o l) 2 = nI (usN (w_bd s (bdU s l f (q + 1))) l (s_hr s l)) → (∀ y, y < 24 → hp_i h2 (la o l + 1) y = bI (bdU s l f q l y)) → Om g M_L_takeAway (d + 1) Q h2 44 [some (.ref (la o l)), some (.int (nI f)), some (.int (nI t)), some (.int (nI q))] [] := by
      intro h2 x2 hr2 hj2 E2 eu2 ey2
      have S2 := sc_fr S0 x2 (fun a _ _ k => by rw [hr2])
      have L2 := sc_l S2 l (by omega)
      refine k_aload_n rfl rfl ?_
      refine k_getR rfl rfl L2.1 L2.2.2.1 ?_
      refine k_iload_n rfl rfl ?_
      refine k_iconst (v := nI 1) rfl (by decide) ?_
      refine k_zS rfl L2.2.1 rfl (by omega) (by decide) rfl ?_
      refine k_incN3 rfl rfl ?_
      refine k_goto rfl ?_
      refine ih (q + 1) _ (by omega) (by omega) (fr_tr x2 (fr_ui ⟨by unfold la; omega, by unfold la; omega⟩)) hr2 hj2 (fun a j z1 z2 => by rw [i_ui, if_neg (fun y => z2 y.1)]; exact E2 a j z1 z2) ((i_ui.trans (if_neg (by omega))).trans eu2) (fun y hy => ?_)
      rw [i_ui]
      by_cases e2 : y = q
      · rw [if_pos ⟨rfl, e2⟩, e2, bdU_s s hfq]; rfl
      · rw [if_neg (fun z => e2 z.2), bdU_ne s (Or.inr e2)]; exact ey2 y hy
    refine k_iload_n rfl rfl ?_
    refine k_iload_n rfl rfl ?_
    refine kn_ge rfl (by omega) (by omega) (fun c8 => ?_) (fun c8 => ?_)
    · exact absurd c8 (by omega)
    · refine k_iload_n rfl rfl ?_
      refine k_bipush (v := nI 24) rfl (by decide) ?_
      refine kn_ge rfl (by omega) (by omega) (fun c14 => ?_) (fun c14 => ?_)
      · exact absurd c14 (by omega)
      · refine k_aload_n rfl rfl ?_
        refine k_getR rfl rfl L0.1 L0.2.2.1 ?_
        refine k_iload_n rfl rfl ?_
        refine k_zA rfl L0.2.1 rfl (by omega) (by decide) (ey q (by omega)) ?_
        refine kb_ne rfl (fun c23 => ?_) (fun c23 => ?_)
        · refine JJ h1 hF hr hj E (eu.trans ?_) ey
          rw [if_neg (by intro z; rw [show bdU s l f q l q = true from c23] at z; cases z.2)] at hU
          rw [← hU]; rfl
        · refine k_iload_n rfl rfl ?_
          refine k_aload_n rfl rfl ?_
          refine k_gI rfl rfl L0.1 a11 ?_
          refine kn_ge rfl (by omega) (by omega) (fun c31 => ?_) (fun c31 => ?_)
          · refine JJ h1 hF hr hj E (eu.trans ?_) ey
            rw [if_neg (by intro z; omega)] at hU
            rw [← hU]; rfl
          · refine k_aload_n rfl rfl ?_
            refine k_dup rfl rfl ?_
            refine k_gI rfl rfl L0.1 eu ?_
            refine k_iconst (v := nI 1) rfl (by decide) ?_
            refine k_isubN rfl (by rw [if_pos ⟨c31, c23⟩] at hU; omega) ?_
            refine k_putI rfl rfl rfl L0.1 ?_
            refine JJ _ (fr_tr hF (fr_ui ⟨by unfold la; omega, by unfold la; omega⟩)) hr hj (fun a j z1 z2 => by rw [i_ui, if_neg z1]; exact E a j z1 z2) (i_ui.trans ((if_pos ⟨rfl, rfl⟩).trans ?_)) (fun y hy => by rw [i_ui, if_neg (by omega)]; exact ey y hy)
            rw [if_pos ⟨c31, c23⟩] at hU
            rw [← hU, Nat.add_sub_cancel]
theorem c_S_rest {g : Gx} {h : Hp} {o d : Nat} {p : Nat → Nat} {s : St} {Q : Option Value → Hp → Prop} (P : PC g h o p s) (I : Inv s) (l f t : Int32) (hQ : ∀ h1 p1, hp_fr (inC o) h h1 → PC g h1 o p1 (rsS s l f t).2 → Q (some (.int (bI (rsS s l f t).1))) h1) : Ct g M_S_rest (d + 2) 0 0 [.ref o, .int l, .int f, .int t] h Q := by
  have S := pc_S P
  have bT := v_told I
  have bL := v_lkr I
  refine ct_of ok_S_rest (by decide) (Nat.le_of_ble_eq_true rfl) [some (.ref o), some (.int l), some (.int f), some (.int t)] rfl rfl ?_
  have N := pn_of P
  unfold rsS at hQ
  refine k_aload_n rfl rfl ?_
  refine k_iload_n rfl rfl ?_
  refine k_cV1 rfl cw_S_isLooker wd_212 (sc_o S) rfl (by decide) (Nat.le_of_ble_eq_true rfl) ?_
  refine c_S_isLooker P I l ?_
  refine kb_eq rfl (fun c5 => ?_) (fun c5 => ?_)
  · refine k_iconst (v := nI 0) rfl (by decide) ?_
    refine k_zret rfl rfl (by decide) (Nat.le_refl _) (Nat.le_refl _) ?_
    rw [c5, Bool.false_and, Bool.false_and, Bool.false_and] at hQ
    exact hQ h p fr_rf P
  · obtain ⟨l0, hl0, el, ecl⟩ := isc_of (by omega) c5
    refine k_iload_n rfl rfl ?_
    refine k_if_lt rfl (fun c9 => ?_) (fun c9 => ?_)
    · refine k_iconst (v := nI 0) rfl (by decide) ?_
      refine k_zret rfl rfl (by decide) (Nat.le_refl _) (Nat.le_refl _) ?_
      rw [decide_eq_false (Int32.not_le.mpr c9), Bool.and_false, Bool.false_and, Bool.false_and] at hQ
      exact hQ h p fr_rf P
    · refine k_iload_n rfl rfl ?_
      refine k_iload_n rfl rfl ?_
      refine k_icmp_ge rfl (fun c14 => ?_) (fun c14 => ?_)
      · refine k_iconst (v := nI 0) rfl (by decide) ?_
        refine k_zret rfl rfl (by decide) (Nat.le_refl _) (Nat.le_refl _) ?_
        rw [decide_eq_false (Int32.not_lt.mpr c14), Bool.and_false, Bool.false_and] at hQ
        exact hQ h p fr_rf P
      · refine k_iload_n rfl rfl ?_
        refine k_bipush (v := nI 24) rfl (by decide) ?_
        refine k_icmp_le rfl (fun c20 => ?_) (fun c20 => ?_)
        · have hf0 : ¬ f < 0 := c9
          obtain ⟨f0, hfb, ef⟩ := nI_of hf0
          have ht0 : ¬ t < 0 := fun z => hf0 (Int32.lt_trans (Int32.not_le.mp c14) z)
          obtain ⟨t0, htb, et⟩ := nI_of ht0
          have hft : f0 < t0 := by
            have := Int32.not_le.mp c14
            rw [ef, et] at this
            exact (nI_ltI hfb htb).mp this
          have ht24 : t0 ≤ 24 := by
            rw [et] at c20
            exact (nI_leI htb (by decide)).mp c20
          rw [c5, decide_eq_true (Int32.not_lt.mp c9), decide_eq_true (Int32.not_le.mp c14), decide_eq_true c20] at hQ
          simp only [Bool.and_true, cond_true] at hQ
          have efc : f.toNatClampNeg = f0 := by rw [ef]; exact nI_clamp hfb
          have etc : t.toNatClampNeg = t0 := by rw [et]; exact nI_clamp htb
          rw [ecl, efc, etc] at hQ
          clear ecl efc etc
          subst ef et
          refine k_aload_n rfl rfl ?_
          refine k_getR rfl rfl (sc_o S) (sc_lkrs S) ?_
          refine k_iload_n rfl rfl ?_
          refine k_aald (q := la o l0) rfl (sc_a243 S) rfl (by decide) el (by omega) (by decide) (sc_l S l0 (by omega)).2.2.2 ?_
          refine k_iload_n rfl rfl ?_
          refine k_iload_n rfl rfl ?_
          refine k_cVN2 rfl cw_L_takeAway (nsM (i := 4) rfl) (sc_l S l0 (by omega)).1 rfl (by decide) (Nat.le_of_ble_eq_true rfl) ?_
          refine c_L_takeAway N bL hl0 (v_hr I l0 hl0).2 (by omega) (by omega) (fun h1 x1 N1 => ?_)
          have S1 := pn_S N1
          refine k_aload_n rfl rfl ?_
          refine k_cV0 rfl cw_S_dropPlan wd_177 (sc_o S1) rfl (by decide) (Nat.le_of_ble_eq_true rfl) ?_
          refine c_S_dropPlan N1 (fun h2 x2 P2 => ?_)
          refine k_iconst (v := nI 1) rfl (by decide) ?_
          refine k_zret rfl rfl (by decide) (Nat.le_refl _) (Nat.le_refl _) ?_
          exact hQ h2 p (fr_tr x1 x2) P2
        · refine k_iconst (v := nI 0) rfl (by decide) ?_
          refine k_zret rfl rfl (by decide) (Nat.le_refl _) (Nat.le_refl _) ?_
          rw [decide_eq_false c20, Bool.and_false] at hQ
          exact hQ h p fr_rf P
theorem wi_nat {n : Nat} (hn : n + 1 < 2 ^ 30) (x : Int32) {y : Int64} (hy : y = lN n) : (decide (lN 0 ≤ x.toInt64) && decide (x.toInt64 ≤ y)) = isc (nI (n + 1)) x := by
  rw [← wi_isc (n := n + 1) (by omega) x, hy, pk_sub (a := n + 1) (b := 1) (by omega), Nat.add_sub_cancel, nI_l (by omega)]
theorem brS_of {s : St} {l q : Int32} {q0 : Nat} (h0 : q0 < 24) (eq : q = nI q0) : brS s l q = cond (isc (nI (s_lkr s)) l) (true, zeroP (w_bd s (bdU s l.toNatClampNeg q0 (q0 + 1)))) (false, s) := by
  subst eq
  unfold brS
  rw [isc_t (nI_pos (by omega)) (nI_lt h0 (by decide))]
  simp only [cond_true]
  unfold rsS
  rw [nI_1]
  rw [decide_eq_true (Int32.not_lt.mp (nI_pos (by omega))), decide_eq_true (nI_lt (show q0 < q0 + 1 by omega) (by omega)), decide_eq_true ((nI_leI (show q0 + 1 < 2 ^ 31 by omega) (show 24 < 2 ^ 31 by decide)).mpr (by omega)), nI_clamp (by omega), nI_clamp (by omega)]
  simp only [Bool.and_true]
theorem c_S_bar {g : Gx} {h : Hp} {o d : Nat} {p : Nat → Nat} {s : St} {Q : Option Value → Hp → Prop} (P : PC g h o p s) (I : Inv s) (l q : Int32) (hQ : ∀ h1 p1, hp_fr (inC o) h h1 → PC g h1 o p1 (brS s l q).2 → Q (some (.int (bI (brS s l q).1))) h1) : Ct g M_S_bar (d + 2) 0 0 [.ref o, .int l, .int q] h Q := by
  have S := pc_S P
  have bT := v_told I
  have bL := v_lkr I
  refine ct_of ok_S_bar (by decide) (Nat.le_of_ble_eq_true rfl) [some (.ref o), some (.int l), some (.int q)] rfl rfl ?_
  have N := pn_of P
  refine k_aload_n rfl rfl ?_
  refine k_iload_n rfl rfl ?_
  refine k_cV1 rfl cw_S_isLooker wd_212 (sc_o S) rfl (by decide) (Nat.le_of_ble_eq_true rfl) ?_
  refine c_S_isLooker P I l ?_
  refine kb_eq rfl (fun c5 => ?_) (fun c5 => ?_)
  · refine k_iconst (v := nI 0) rfl (by decide) ?_
    refine k_zret rfl rfl (by decide) (Nat.le_refl _) (Nat.le_refl _) ?_
    have e9 : brS s l q = (false, s) := by
      unfold brS rsS
      rw [c5]
      simp only [Bool.false_and, cond_false]
      cases isc (nI 24) q <;> rfl
    rw [e9] at hQ
    exact hQ h p fr_rf P
  · obtain ⟨l0, hl0, el, ecl⟩ := isc_of (by omega) c5
    refine k_iload_n rfl rfl ?_
    refine k_i2l rfl ?_
    refine k_lconst (v := lN 0) rfl (by decide) ?_
    refine k_ldc2 rfl wd_216 ?_
    refine k_cS3 rfl cw_S_isWithin wd_161 (by decide) (Nat.le_of_ble_eq_true rfl) ?_
    refine c_S_isWithin _ _ _ ?_
    rw [wi_nat (n := 23) (y := 23) (by decide) q (by decide +kernel)]
    refine kb_ne rfl (fun c17 => ?_) (fun c17 => ?_)
    · obtain ⟨q0, hq0, eq0, eqc⟩ := isc_of (by decide) c17
      rw [brS_of hq0 eq0, c5, ecl] at hQ
      clear ecl eqc
      subst eq0
      refine k_aload_n rfl rfl ?_
      refine k_getR rfl rfl (sc_o S) (sc_lkrs S) ?_
      refine k_iload_n rfl rfl ?_
      refine k_aald (q := la o l0) rfl (sc_a243 S) rfl (by decide) el (by omega) (by decide) (sc_l S l0 (by omega)).2.2.2 ?_
      refine k_iload_n rfl rfl ?_
      refine k_iload_n rfl rfl ?_
      refine k_iconst (v := nI 1) rfl (by decide) ?_
      refine k_iaddN rfl ?_
      refine k_cVN2 rfl cw_L_takeAway (nsM (i := 4) rfl) (sc_l S l0 (by omega)).1 rfl (by decide) (Nat.le_of_ble_eq_true rfl) ?_
      refine c_L_takeAway N bL hl0 (v_hr I l0 hl0).2 (by omega) (by omega) (fun h1 x1 N1 => ?_)
      have S1 := pn_S N1
      refine k_aload_n rfl rfl ?_
      refine k_cV0 rfl cw_S_dropPlan wd_177 (sc_o S1) rfl (by decide) (Nat.le_of_ble_eq_true rfl) ?_
      refine c_S_dropPlan N1 (fun h2 x2 P2 => ?_)
      refine k_iconst (v := nI 1) rfl (by decide) ?_
      refine k_zret rfl rfl (by decide) (Nat.le_refl _) (Nat.le_refl _) ?_
      exact hQ h2 p (fr_tr x1 x2) P2
    · refine k_iconst (v := nI 0) rfl (by decide) ?_
      refine k_zret rfl rfl (by decide) (Nat.le_refl _) (Nat.le_refl _) ?_
      have e9 : brS s l q = (false, s) := by
        unfold brS
        rw [show isc (nI 24) q = false from c17]
        rfl
      rw [e9] at hQ
      exact hQ h p fr_rf P
