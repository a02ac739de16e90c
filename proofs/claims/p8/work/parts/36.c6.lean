/-- where the told cells stand when a new one has come to place k of them -/
def sgm (k T x : Nat) : Nat := if x < k then x else if x = k then T else if x ≤ T then x - 1 else x
theorem sgm_lt {k T x : Nat} (hk : k ≤ T) (hT : T < 40) (hx : x < 40) : sgm k T x < 40 := by unfold sgm; split <;> (try split) <;> (try split) <;> omega
theorem sgm_inj {k T x y : Nat} (hk : k ≤ T) (e : sgm k T x = sgm k T y) : x = y := by
  unfold sgm at e
  by_cases a1 : x < k
  · rw [if_pos a1] at e
    by_cases b1 : y < k
    · rw [if_pos b1] at e; exact e
    · rw [if_neg b1] at e
      by_cases b2 : y = k
      · rw [if_pos b2] at e; omega
      · rw [if_neg b2] at e
        by_cases b3 : y ≤ T
        · rw [if_pos b3] at e; omega
        · rw [if_neg b3] at e; omega
  · rw [if_neg a1] at e
    by_cases a2 : x = k
    · rw [if_pos a2] at e
      by_cases b1 : y < k
      · rw [if_pos b1] at e; omega
      · rw [if_neg b1] at e
        by_cases b2 : y = k
        · omega
        · rw [if_neg b2] at e
          by_cases b3 : y ≤ T
          · rw [if_pos b3] at e; omega
          · rw [if_neg b3] at e; omega
    · rw [if_neg a2] at e
      by_cases a3 : x ≤ T
      · rw [if_pos a3] at e
        by_cases b1 : y < k
        · rw [if_pos b1] at e; omega
        · rw [if_neg b1] at e
          by_cases b2 : y = k
          · rw [if_pos b2] at e; omega
          · rw [if_neg b2] at e
            by_cases b3 : y ≤ T
            · rw [if_pos b3] at e; omega
            · rw [if_neg b3] at e; omega
      · rw [if_neg a3] at e
        by_cases b1 : y < k
        · rw [if_pos b1] at e; omega
        · rw [if_neg b1] at e
          by_cases b2 : y = k
          · rw [if_pos b2] at e; omega
          · rw [if_neg b2] at e
            by_cases b3 : y ≤ T
            · rw [if_pos b3] at e; omega
            · rw [if_neg b3] at e; omega
theorem insN_lt {f : Nat → Nat} {k v x : Nat} (h : x < k) : insN f k v x = f x := by unfold insN; rw [if_pos h]
theorem insN_eq {f : Nat → Nat} {k v : Nat} : insN f k v k = v := by unfold insN; rw [if_neg (Nat.lt_irrefl k), if_pos rfl]
theorem insN_gt {f : Nat → Nat} {k v x : Nat} (h : k < x) : insN f k v x = f (x - 1) := by unfold insN; rw [if_neg (by omega), if_neg (by omega)]
theorem c_S_tellOf {g : Gx} {h : Hp} {o d : Nat} {p : Nat → Nat} {s : St} {Q : Option Value → Hp → Prop} (P : PC g h o p s) (I : Inv s) (c : Int32) (hc : isc (nI (s_cells s)) c = true) (hQ1 : ∀ h1 p1, hp_fr (inC o) h h1 → PN g h1 o p1 (tlS s c).2 → (tlS s c).1 < s_told (tlS s c).2 → ¬ (plS s c = none ∧ s_told s = 40) → Q (some (.int (nI (tlS s c).1))) h1) (hQ2 : plS s c = none → s_told s = 40 → Q (some (.int (-1))) h) : Ct g M_S_tellOf (d + 1) 0 0 [.ref o, .int c] h Q := by
  have S := pc_S P
  have bT := v_told I
  have bL := v_lkr I
  refine ct_of ok_S_tellOf (by decide) (Nat.le_of_ble_eq_true rfl) [some (.ref o), some (.int c), none, none] rfl rfl ?_
  have hcb := v_cells I
  have N := pn_of P
  have hm := (pc_m P).1
  unfold tlS at hQ1
  cases hp : plS s c with
  | some k =>
    have hk := plS_lt hp
    rw [hp] at hQ1
    refine k_aload_n rfl rfl ?_
    refine k_iload_n rfl rfl ?_
    refine k_cV1 rfl cw_S_placeOf wd_173 (sc_o S) rfl (by decide) (Nat.le_of_ble_eq_true rfl) ?_
    refine c_S_placeOf P I c ?_
    rw [hp]
    refine k_ist2 rfl rfl ?_
    refine k_iload_n rfl rfl ?_
    refine k_iconst (v := -1) rfl (by decide) ?_
    refine k_icmp_ne rfl (fun c8 => ?_) (fun c8 => ?_)
    · refine k_iload_n rfl rfl ?_
      refine k_iret rfl rfl (Nat.le_refl _) (Nat.le_refl _) ?_
      exact hQ1 h p fr_rf N hk (fun z => by cases z.1)
    · exact absurd c8 (nI_m1 (by omega))
  | none =>
    obtain ⟨c0, hc0, ec, ecl⟩ := isc_of (by omega) hc
    rw [hp, ecl] at hQ1
    simp only at hQ1
    subst ec
    refine k_aload_n rfl rfl ?_
    refine k_iload_n rfl rfl ?_
    refine k_cV1 rfl cw_S_placeOf wd_173 (sc_o S) rfl (by decide) (Nat.le_of_ble_eq_true rfl) ?_
    refine c_S_placeOf P I (nI c0) ?_
    rw [hp]
    refine k_ist2 rfl rfl ?_
    refine k_iload_n rfl rfl ?_
    refine k_iconst (v := -1) rfl (by decide) ?_
    refine k_icmp_ne rfl (fun c8 => ?_) (fun c8 => ?_)
    · exact absurd rfl c8
    · refine k_aload_n rfl rfl ?_
      refine k_gI rfl rfl (sc_o S) (pc_told P) ?_
      refine k_bipush (v := nI 40) rfl (by decide) ?_
      refine kn_lt rfl (by omega) (by omega) (fun c17 => ?_) (fun c17 => ?_)
      · have hpT := (show p (s_told s) < 40 from hm _ (by omega))
        refine k_aload_n rfl rfl ?_
        refine k_getR rfl rfl (sc_o S) (sc_told S) ?_
        refine k_aload_n rfl rfl ?_
        refine k_gI rfl rfl (sc_o S) (pc_told P) ?_
        refine k_aald (q := ca o (p (s_told s))) rfl (sc_a2 S) rfl (by decide) rfl (show s_told s < 40 by omega) (by decide) (pc_r P _ (by omega)) ?_
        refine k_ast3 rfl rfl ?_
        refine k_aload_n rfl rfl ?_
        refine k_iload_n rfl rfl ?_
        refine k_putI rfl rfl rfl (sc_c S (p (s_told s)) hpT).1 ?_
        refine k_aload_n rfl rfl ?_
        refine k_gI (x := nI (s_told s)) rfl rfl (sc_o S) (by rw [i_ui, if_neg (by unfold ca; omega)]; exact pc_told P) ?_
        refine k_ist2 rfl rfl ?_
        have J : ∀ (k : Nat) (h1 : Hp), k ≤ s_told s → hp_fr (inC o) h h1 → hp_i h1 = hp_i (hp_ui h (ca o (p (s_told s))) 5 (nI c0)) → hp_j h1 = hp_j h → (∀ a, a ≠ o + 2 → ∀ x, hp_r h1 a x = hp_r h a x) → dnF (s_num s) c0 (s_told s) = k → (∀ x, x < 40 → x ≠ k → hp_r h1 (o + 2) x = some (ca o (p (if x < k then x else if x ≤ s_told s then x - 1 else x)))) → Om g M_S_tellOf (d + 1) Q h1 81 [some (.ref o), some (.int (nI c0)), some (.int (nI k)), some (.ref (ca o (p (s_told s))))] [] := by
          intro k h1 hk hF hi1 hj1 hra ed hrow
          have S1 := sc_fr S hF (fun a _ ha x => hra a ha x)
          have hb40 := (show p (s_told s) < 40 from hm _ (by omega))
          have hT1 : hp_i h1 o 2 = nI (s_told s) := by rw [hi1, i_ui, if_neg (by unfold ca; omega)]; exact pc_told P
          refine k_aload_n rfl rfl ?_
          refine k_getR rfl rfl (sc_o S1) (hra o (by omega) 1 |>.trans (sc_told S)) ?_
          refine k_iload_n rfl rfl ?_
          refine k_aload_n rfl rfl ?_
          refine k_aast rfl (sc_a2 S1) (sc_c S1 (p (s_told s)) hb40).1 (by decide +kernel) (by decide) rfl (by omega) (by decide) ?_
          refine k_aload_n rfl rfl ?_
          refine k_dup rfl rfl ?_
          refine k_gI rfl rfl (show isO g h1 o 3 from sc_o S1) hT1 ?_
          refine k_iconst (v := nI 1) rfl (by decide) ?_
          refine k_iaddN rfl ?_
          refine k_putI rfl rfl rfl (show isO g h1 o 3 from sc_o S1) ?_
          refine k_iload_n rfl rfl ?_
          refine k_iret rfl rfl (Nat.le_refl _) (Nat.le_refl _) ?_
          have x : hp_fr (inC o) h (hp_ui (hp_ur h1 (o + 2) k (some (ca o (p (s_told s))))) o 2 (nI (s_told s + 1))) := fr_tr hF (fr_tr (fr_ur ⟨by omega, by omega⟩) (fr_ui ⟨by omega, by omega⟩))
          have E : ∀ a j, ¬ (a = o ∧ j = 2) ∧ ¬ (a = ca o (p (s_told s)) ∧ j = 5) → hp_i (hp_ui (hp_ur h1 (o + 2) k (some (ca o (p (s_told s))))) o 2 (nI (s_told s + 1))) a j = hp_i h a j := fun a j z => by
            rw [i_ui, if_neg z.1]
            show hp_i h1 a j = _
            rw [hi1, i_ui, if_neg z.2]
          have Ej : ∀ (a j : Nat), (o = o) → hp_j (hp_ui (hp_ur h1 (o + 2) k (some (ca o (p (s_told s))))) o 2 (nI (s_told s + 1))) a j = hp_j h a j := fun a j _ => by show hp_j h1 a j = _; rw [hj1]
          rw [ed] at hQ1
          exact hQ1 (hp_ui (hp_ur h1 (o + 2) k (some (ca o (p (s_told s))))) o 2 (nI (s_told s + 1))) (fun x => p (sgm k (s_told s) x)) x ⟨(sc_fr (pc_S P) x (fun a _ ha k1 => by show hp_r (hp_ur h1 (o + 2) k _) a k1 = _; rw [r_ur, if_neg (fun z => ha z.1)]; exact hra a ha k1)), (fun i hi => by
            show hp_r (hp_ur h1 (o + 2) k (some (ca o (p (s_told s))))) (o + 2) i = some (ca o (p (sgm k (s_told s) i)))
            rw [r_ur]
            unfold sgm
            by_cases e : i = k
            · rw [if_pos ⟨rfl, e⟩, if_neg (by omega), if_pos e]
            · rw [if_neg (fun z => e z.2), hrow i hi e, if_neg e]), ⟨⟨fun i hi => hm _ (sgm_lt hk (by omega) hi), fun i j hi hj e => sgm_inj hk ((pc_m P).2 _ _ (sgm_lt hk (by omega) hi) (sgm_lt hk (by omega) hj) e)⟩, show s_told s + 1 ≤ 40 by omega⟩, (fun i hi => by
            have hi : i < s_told s + 1 := hi
            show cN _ (ca o (p (sgm k (s_told s) i))) (tlT s c0 k) i
            rcases Nat.lt_trichotomy i k with q1 | q1 | q1
            · have hb := hm i (by omega)
              have e1 : sgm k (s_told s) i = i := by unfold sgm; rw [if_pos q1]
              rw [e1]
              obtain ⟨a1, a2, a3, a4, a6⟩ := pn_t N i (by omega)
              have hne : p i ≠ p (s_told s) := fun z => by have := (pc_m P).2 _ _ (by omega) (by omega) z; omega
              have ee : ∀ q j, q < 4 → hp_i (hp_ui (hp_ur h1 (o + 2) k (some (ca o (p (s_told s))))) o 2 (nI (s_told s + 1))) (ca o (p i) + q) j = hp_i h (ca o (p i) + q) j := fun q j hq => E _ j (by unfold ca; omega)
              refine ⟨(ee 0 5 (by omega)).trans (a1.trans ?_), (ee 0 6 (by omega)).trans (a2.trans ?_), (ee 0 7 (by omega)).trans (a3.trans ?_), fun t ht => (ee 1 t (by omega)).trans ((a4 t ht).trans ?_), fun t ht => (ee 3 t (by omega)).trans ((a6 t ht).trans ?_)⟩
              · show _ = nI (insN (s_num s) k c0 i); rw [insN_lt q1]
              · show _ = nI (insN (s_ar s) k 60 i); rw [insN_lt q1]
              · show _ = nI (720 / insN (s_ar s) k 60 i); rw [insN_lt q1]
              · show _ = nI (insN (s_cn s t) k 0 i); rw [insN_lt q1]
              · show _ = nI (insN (s_ld s t) k 0 i); rw [insN_lt q1]
            · subst q1
              have e1 : sgm i (s_told s) i = s_told s := by unfold sgm; rw [if_neg (Nat.lt_irrefl i), if_pos rfl]
              rw [e1]
              obtain ⟨a2, a3, a4, a5, a6⟩ := pn_f N (s_told s) (Nat.le_refl _) (by omega)
              have ee : ∀ q j, q < 4 → j ≠ 5 ∨ q ≠ 0 → hp_i (hp_ui (hp_ur h1 (o + 2) i (some (ca o (p (s_told s))))) o 2 (nI (s_told s + 1))) (ca o (p (s_told s)) + q) j = hp_i h (ca o (p (s_told s)) + q) j := fun q j hq hj => E _ j (by unfold ca; omega)
              refine ⟨?_, (ee 0 6 (by omega) (by omega)).trans (a2.trans ?_), (ee 0 7 (by omega) (by omega)).trans (a3.trans ?_), fun t ht => (ee 1 t (by omega) (by omega)).trans ((a4 t ht).trans ?_), fun t ht => (ee 3 t (by omega) (by omega)).trans ((a6 t ht).trans ?_)⟩
              · show _ = nI (insN (s_num s) i c0 i); rw [insN_eq, i_ui, if_neg (by unfold ca; omega)]; show hp_i h1 _ _ = _; rw [hi1, i_ui, if_pos ⟨rfl, rfl⟩]
              · show _ = nI (insN (s_ar s) i 60 i); rw [insN_eq]
              · show _ = nI (720 / insN (s_ar s) i 60 i); rw [insN_eq]
              · show _ = nI (insN (s_cn s t) i 0 i); rw [insN_eq]; rfl
              · show _ = nI (insN (s_ld s t) i 0 i); rw [insN_eq]; rfl
            · have hb := hm (i - 1) (by omega)
              have e1 : sgm k (s_told s) i = i - 1 := by unfold sgm; rw [if_neg (by omega), if_neg (by omega), if_pos (by omega)]
              rw [e1]
              obtain ⟨a1, a2, a3, a4, a6⟩ := pn_t N (i - 1) (by omega)
              have hne : p (i - 1) ≠ p (s_told s) := fun z => by have := (pc_m P).2 _ _ (by omega) (by omega) z; omega
              have ee : ∀ q j, q < 4 → hp_i (hp_ui (hp_ur h1 (o + 2) k (some (ca o (p (s_told s))))) o 2 (nI (s_told s + 1))) (ca o (p (i - 1)) + q) j = hp_i h (ca o (p (i - 1)) + q) j := fun q j hq => E _ j (by unfold ca; omega)
              refine ⟨(ee 0 5 (by omega)).trans (a1.trans ?_), (ee 0 6 (by omega)).trans (a2.trans ?_), (ee 0 7 (by omega)).trans (a3.trans ?_), fun t ht => (ee 1 t (by omega)).trans ((a4 t ht).trans ?_), fun t ht => (ee 3 t (by omega)).trans ((a6 t ht).trans ?_)⟩
              · show _ = nI (insN (s_num s) k c0 i); rw [insN_gt q1]
              · show _ = nI (insN (s_ar s) k 60 i); rw [insN_gt q1]
              · show _ = nI (720 / insN (s_ar s) k 60 i); rw [insN_gt q1]
              · show _ = nI (insN (s_cn s t) k 0 i); rw [insN_gt q1]
              · show _ = nI (insN (s_ld s t) k 0 i); rw [insN_gt q1]), (fun i hi h4 => by
            have hi : s_told s + 1 ≤ i := hi
            have hb := hm i h4
            have hne : p i ≠ p (s_told s) := fun z => by have := (pc_m P).2 _ _ (by omega) (by omega) z; omega
            show cF _ (ca o (p (sgm k (s_told s) i)))
            rw [show sgm k (s_told s) i = i by unfold sgm; rw [if_neg (by omega), if_neg (by omega), if_neg (by omega)]]
            exact cF_tr (pn_f N i (by omega) h4) (fun q hq j _ => E _ j (by unfold ca; omega))), (fun j hj l hl => (E _ l (by have := (show p (s_told s) < 40 from hm _ (by omega)); unfold ca; omega)).trans (pn_z N j hj l hl)), (fun y hy => (E _ y (by (try unfold ca); (try unfold la); omega)).trans (pn_rt (s := s) N y hy)), (fun y hy => lQ_cg (lQ_tr (s := s) (pn_l N y hy) (fun j _ => E _ j (by (try unfold ca); (try unfold la); omega)) (fun j => E _ j (by (try unfold ca); (try unfold la); omega))) rfl rfl rfl), (gT_cg (gT_tr (s := s) (pn_g N) (fun k k1 k2 j => E _ j (by (try unfold ca); (try unfold la); omega)) (fun j => Ej _ j (by (try unfold ca); (try unfold la); omega))) rfl rfl rfl rfl rfl), ((E o 0 (by (try unfold ca); (try unfold la); omega)).trans (pn_cells (s := s) N)), (i_ui.trans (if_pos ⟨rfl, rfl⟩)), ((E o 4 (by (try unfold ca); (try unfold la); omega)).trans (pn_lkr (s := s) N)), ((E o 6 (by (try unfold ca); (try unfold la); omega)).trans (pn_things (s := s) N)), ((E o 8 (by (try unfold ca); (try unfold la); omega)).trans (pn_seen (s := s) N)), ((Ej o 9 (by (try unfold ca); (try unfold la); omega)).trans (pn_ab (s := s) N)), ((Ej o 10 (by (try unfold ca); (try unfold la); omega)).trans (pn_bl (s := s) N))⟩ (show k < s_told s + 1 by omega) (fun z => by omega)
        suffices H : ∀ (k : Nat) (h1 : Hp), k ≤ s_told s → hp_fr (inC o) h h1 → hp_i h1 = hp_i (hp_ui h (ca o (p (s_told s))) 5 (nI c0)) → hp_j h1 = hp_j h → (∀ a, a ≠ o + 2 → ∀ x, hp_r h1 a x = hp_r h a x) → dnF (s_num s) c0 (s_told s) = dnF (s_num s) c0 k → (∀ x, x < 40 → x ≠ k → hp_r h1 (o + 2) x = some (ca o (p (if x < k then x else if x ≤ s_told s then x - 1 else x)))) → Om g M_S_tellOf (d + 1) Q h1 42 [some (.ref o), some (.int (nI c0)), some (.int (nI k)), some (.ref (ca o (p (s_told s))))] [] from
          H (s_told s) _ (Nat.le_refl _) (fr_ui ⟨by unfold ca; omega, by have := (show p (s_told s) < 40 from hm _ (by omega)); unfold ca; omega⟩) rfl rfl (fun _ _ _ => rfl) rfl (fun x hx hne => by
            show hp_r h (o + 2) x = _
            rw [pc_r P x hx]
            by_cases e : x < s_told s
            · rw [if_pos e]
            · rw [if_neg e, if_neg (by omega)])
        intro k
        induction k with
        | zero =>
          intro h1 hk hF hi1 hj1 hra ed hrow
          refine k_iload_n rfl rfl ?_
          refine k_if_le rfl (fun c43 => ?_) (fun c43 => ?_)
          · exact J 0 h1 hk hF hi1 hj1 hra ed hrow
          · exact absurd (show nI 0 ≤ 0 by decide) c43
        | succ k ih =>
          intro h1 hk hF hi1 hj1 hra ed hrow
          have S1 := sc_fr S hF (fun a _ ha x => hra a ha x)
          have hnk := v_num I k (by omega)
          have hpk := hm k (by omega)
          have hne : p k ≠ p (s_told s) := fun z => by have := (pc_m P).2 _ _ (by omega) (by omega) z; omega
          have hnum : hp_i h1 (ca o (p k)) 5 = nI (s_num s k) := by rw [hi1, i_ui, if_neg (by unfold ca; omega)]; exact (pc_t P k (by omega)).1
          have hrk : hp_r h1 (o + 2) k = some (ca o (p k)) := by rw [hrow k (by omega) (by omega), if_pos (by omega)]
          have hrt : hp_r h1 o 1 = some (o + 2) := (hra o (by omega) 1).trans (sc_told S)
          simp only [dnF] at ed
          refine k_iload_n rfl rfl ?_
          refine k_if_le rfl (fun c43 => ?_) (fun c43 => ?_)
          · exact absurd ((nI_leI (b := 0) (by omega) (by decide)).mp c43) (by omega)
          · refine k_aload_n rfl rfl ?_
            refine k_getR rfl rfl (sc_o S1) hrt ?_
            refine k_iload_n rfl rfl ?_
            refine k_iconst (v := 1) rfl (by decide) ?_
            refine k_isub rfl ?_
            rw [nI_pred]
            refine k_aald (q := ca o (p k)) rfl (sc_a2 S1) rfl (by decide) rfl (show k < 40 by omega) (by decide) hrk ?_
            refine k_gI rfl rfl (sc_c S1 (p k) hpk).1 hnum ?_
            refine k_iload_n rfl rfl ?_
            refine kn_le rfl (by omega) (by omega) (fun c58 => ?_) (fun c58 => ?_)
            · rw [if_neg (by omega)] at ed
              exact J (k + 1) h1 hk hF hi1 hj1 hra ed hrow
            · rw [if_pos c58] at ed
              refine k_aload_n rfl rfl ?_
              refine k_getR rfl rfl (sc_o S1) hrt ?_
              refine k_iload_n rfl rfl ?_
              refine k_aload_n rfl rfl ?_
              refine k_getR rfl rfl (sc_o S1) hrt ?_
              refine k_iload_n rfl rfl ?_
              refine k_iconst (v := 1) rfl (by decide) ?_
              refine k_isub rfl ?_
              rw [nI_pred]
              refine k_aald (q := ca o (p k)) rfl (sc_a2 S1) rfl (by decide) rfl (show k < 40 by omega) (by decide) hrk ?_
              refine k_aast rfl (sc_a2 S1) (sc_c S1 (p k) hpk).1 (by decide +kernel) (by decide) rfl (by omega) (by decide) ?_
              refine k_decN2 rfl rfl ?_
              refine k_goto rfl ?_
              refine ih _ (by omega) (fr_tr hF (fr_ur ⟨by omega, by omega⟩)) hi1 hj1 (fun a ha x => by rw [r_ur, if_neg (fun z => ha z.1)]; exact hra a ha x) ed (fun x hx hxk => ?_)
              rw [r_ur]
              by_cases e : x = k + 1
              · rw [if_pos ⟨rfl, e⟩, if_neg (by omega), if_pos (by omega), e, Nat.add_sub_cancel]
              · rw [if_neg (fun z => e z.2), hrow x hx e]
                by_cases e2 : x < k
                · rw [if_pos (by omega), if_pos e2]
                · rw [if_neg (by omega), if_neg e2]
      · refine k_iload_n rfl rfl ?_
        refine k_iret rfl rfl (Nat.le_refl _) (Nat.le_refl _) ?_
        exact hQ2 hp (by omega)
theorem c_S_countsOf {g : Gx} {h : Hp} {o d : Nat} {p : Nat → Nat} {s : St} {Q : Option Value → Hp → Prop} (P : PC g h o p s) (I : Inv s) (t c : Int32) (n : Int64) (hQ : ∀ h1 p1, hp_fr (inC o) h h1 → PC g h1 o p1 (cuS s t c n).2 → Q (some (.int (bI (cuS s t c n).1))) h1) : Ct g M_S_countsOf (d + 2) 0 0 [.ref o, .int t, .int c, .long n] h Q := by
  have S := pc_S P
  have bT := v_told I
  have bL := v_lkr I
  refine ct_of ok_S_countsOf (by decide) (Nat.le_of_ble_eq_true rfl) [some (.ref o), some (.int t), some (.int c), some (.long n), none, none] rfl rfl ?_
  have hth := v_things I
  have hcb := v_cells I
  unfold cuS at hQ
  refine k_iload_n rfl rfl ?_
  refine k_i2l rfl ?_
  refine k_lconst (v := lN 0) rfl (by decide) ?_
  refine k_aload_n rfl rfl ?_
  refine k_gI rfl rfl (sc_o S) (pc_things P) ?_
  refine k_iconst (v := nI 1) rfl (by decide) ?_
  refine k_isub rfl ?_
  refine k_i2l rfl ?_
  refine k_cS3 rfl cw_S_isWithin wd_161 (by decide) (Nat.le_of_ble_eq_true rfl) ?_
  refine c_S_isWithin _ _ _ ?_
  rw [wi_isc (by omega)]
  refine kb_eq rfl (fun c13 => ?_) (fun c13 => ?_)
  · refine k_iconst (v := nI 0) rfl (by decide) ?_
    refine k_zret rfl rfl (by decide) (Nat.le_refl _) (Nat.le_refl _) ?_
    rw [if_pos (by
      by_cases z : t < 0
      · exact Or.inl z
      · refine Or.inr (Or.inl (Int32.not_lt.mp (fun y => ?_)))
        rw [isc_t z y] at c13; cases c13)] at hQ
    exact hQ h p fr_rf P
  · obtain ⟨t0, ht0, et, etc⟩ := isc_of (by omega) c13
    refine k_aload_n rfl rfl ?_
    refine k_iload_n rfl rfl ?_
    refine k_cV1 rfl cw_S_isCell wd_164 (sc_o S) rfl (by decide) (Nat.le_of_ble_eq_true rfl) ?_
    refine c_S_isCell P I c ?_
    refine kb_eq rfl (fun c21 => ?_) (fun c21 => ?_)
    · refine k_iconst (v := nI 0) rfl (by decide) ?_
      refine k_zret rfl rfl (by decide) (Nat.le_refl _) (Nat.le_refl _) ?_
      rw [if_pos (Or.inr (Or.inr (Or.inl c21)))] at hQ
      exact hQ h p fr_rf P
    · refine k_aload_n rfl rfl ?_
      refine k_gI rfl rfl (sc_o S) (pc_seen P) ?_
      refine k_iconst (v := -1) rfl (by decide) ?_
      refine k_icmp_eq rfl (fun c29 => ?_) (fun c29 => ?_)
      · have hse : s_seen s = none := by
          cases hs : s_seen s with
          | none => rfl
          | some q => rw [hs] at c29; exact absurd c29 (nI_m1 (by have := v_seen I q hs; omega))
        refine k_lload_n rfl rfl ?_
        refine k_lconst (v := lN 0) rfl (by decide) ?_
        refine k_ldc2 rfl wd_168 ?_
        refine k_cS3 rfl cw_S_isWithin wd_161 (by decide) (Nat.le_of_ble_eq_true rfl) ?_
        refine c_S_isWithin _ _ _ ?_
        refine kb_ne rfl (fun c42 => ?_) (fun c42 => ?_)
        · refine k_aload_n rfl rfl ?_
          refine k_iload_n rfl rfl ?_
          refine k_cV1 rfl cw_S_tellOf wd_169 (sc_o S) rfl (by decide) (Nat.le_of_ble_eq_true rfl) ?_
          refine c_S_tellOf P I c c21 (fun h1 p1 x1 N1 hk hro => ?_) (fun z1 z2 => ?_)
          rotate_left
          · refine k_ist5 rfl rfl ?_
            refine k_iload rfl rfl ?_
            refine k_iconst (v := -1) rfl (by decide) ?_
            refine k_icmp_ne rfl (fun c57 => ?_) (fun c57 => ?_)
            · exact absurd rfl c57
            refine k_iconst (v := nI 0) rfl (by decide) ?_
            refine k_zret rfl rfl (by decide) (Nat.le_refl _) (Nat.le_refl _) ?_
            rw [if_pos (Or.inr (Or.inr (Or.inr (Or.inr (Or.inr (Or.inr ⟨z1, z2⟩))))))] at hQ
            exact hQ h p fr_rf P
          have S1 := pn_S N1
          have b41 := pn_40 N1
          have hpk := (pn_m N1).1 (tlS s c).1 (by omega)
          have y1 := (wi_t c42).1
          have y2 := (wi_t c42).2
          rw [← lN0] at y1
          obtain ⟨en, hn63⟩ := LN_of y1
          rw [if_neg (by rintro (z | z | z | z | z | z | z)
                         · rw [et] at z; exact nI_pos (by omega) z
                         · rw [et] at z; exact nI_ge ht0 (by omega) z
                         · rw [c21] at z; cases z
                         · exact z hse
                         · exact y1 z
                         · exact y2 z
                         · exact hro z)] at hQ
          rw [etc] at hQ
          have x : hp_fr (inC o) h1 (hp_ui h1 (ca o (p1 (tlS s c).1) + 1) t0 (nI (LN n))) := fr_ui ⟨by unfold ca; omega, by unfold ca; omega⟩
          have hr : hp_r (hp_ui h1 (ca o (p1 (tlS s c).1) + 1) t0 (nI (LN n))) = hp_r h1 := rfl
          have E : ∀ a j, ¬ (a = ca o (p1 (tlS s c).1) + 1 ∧ j = t0) → hp_i (hp_ui h1 (ca o (p1 (tlS s c).1) + 1) t0 (nI (LN n))) a j = hp_i h1 a j := fun a j z => by rw [i_ui, if_neg z]
          have Ej : ∀ (a j : Nat), (o = o) → hp_j (hp_ui h1 (ca o (p1 (tlS s c).1) + 1) t0 (nI (LN n))) a j = hp_j h1 a j := fun _ _ _ => rfl
          have N2 : PN g (hp_ui h1 (ca o (p1 (tlS s c).1) + 1) t0 (nI (LN n))) o p1 (w_cn (tlS s c).2 (cnU (tlS s c).2 t0 (tlS s c).1 (LN n))) := ⟨(sc_fr (pn_S N1) x (fun a _ _ k => by rw [hr])), (fun i hi => by rw [hr]; exact pn_r N1 i hi), ⟨pn_m N1, pn_40 (s := (tlS s c).2) N1⟩, (fun i hi => by
            have hi : i < s_told (tlS s c).2 := hi
            have hb := (pn_m N1).1 i (by omega)
            obtain ⟨a1, a2, a3, a4, a6⟩ := pn_t N1 i hi
            refine ⟨(E _ 5 (by unfold ca; omega)).trans a1, (E _ 6 (by unfold ca; omega)).trans a2, (E _ 7 (by unfold ca; omega)).trans a3, fun y hy => ?_, fun y hy => (E _ y (by unfold ca; omega)).trans (a6 y hy)⟩
            show _ = nI (cnU (tlS s c).2 t0 (tlS s c).1 (LN n) y i)
            unfold cnU
            by_cases e : y = t0 ∧ i = (tlS s c).1
            · rw [if_pos e, e.1, e.2, i_ui, if_pos ⟨rfl, rfl⟩]
            · rw [if_neg e, i_ui, if_neg (fun z => e ⟨z.2, pm_ca (k := 1) (pn_m N1) (by omega) (by omega) z.1⟩)]
              exact a4 y hy), (fun i hi h4 => by
            have hi : s_told (tlS s c).2 ≤ i := hi
            have hb := (pn_m N1).1 i h4
            have hne : p1 i ≠ p1 (tlS s c).1 := fun z => by have := (pn_m N1).2 _ _ h4 (by omega) z; omega
            exact cF_tr (pn_f N1 i hi h4) (fun q hq j _ => E _ j (by unfold ca; omega))), (fun j hj y hy => (E _ y (by (try unfold ca); (try unfold la); omega)).trans (pn_z N1 j hj y hy)), (fun y hy => (E _ y (by (try unfold ca); (try unfold la); omega)).trans (pn_rt (s := (tlS s c).2) N1 y hy)), (fun y hy => lQ_cg (lQ_tr (s := (tlS s c).2) (pn_l N1 y hy) (fun j _ => E _ j (by (try unfold ca); (try unfold la); omega)) (fun j => E _ j (by (try unfold ca); (try unfold la); omega))) rfl rfl rfl), (gT_cg (gT_tr (s := (tlS s c).2) (pn_g N1) (fun k k1 k2 j => E _ j (by (try unfold ca); (try unfold la); omega)) (fun j => Ej _ j (by (try unfold ca); (try unfold la); omega))) rfl rfl rfl rfl rfl), ((E o 0 (by (try unfold ca); (try unfold la); omega)).trans (pn_cells (s := (tlS s c).2) N1)), ((E o 2 (by (try unfold ca); (try unfold la); omega)).trans (pn_told (s := (tlS s c).2) N1)), ((E o 4 (by (try unfold ca); (try unfold la); omega)).trans (pn_lkr (s := (tlS s c).2) N1)), ((E o 6 (by (try unfold ca); (try unfold la); omega)).trans (pn_things (s := (tlS s c).2) N1)), ((E o 8 (by (try unfold ca); (try unfold la); omega)).trans (pn_seen (s := (tlS s c).2) N1)), ((Ej o 9 (by (try unfold ca); (try unfold la); omega)).trans (pn_ab (s := (tlS s c).2) N1)), ((Ej o 10 (by (try unfold ca); (try unfold la); omega)).trans (pn_bl (s := (tlS s c).2) N1))⟩
          refine k_ist5 rfl rfl ?_
          refine k_iload rfl rfl ?_
          refine k_iconst (v := -1) rfl (by decide) ?_
          refine k_icmp_ne rfl (fun c57 => ?_) (fun c57 => ?_)
          · refine k_aload_n rfl rfl ?_
            refine k_getR rfl rfl (sc_o S1) (sc_told S1) ?_
            refine k_iload rfl rfl ?_
            refine k_aald (q := ca o (p1 (tlS s c).1)) rfl (sc_a2 S1) rfl (by decide) rfl (show (tlS s c).1 < 40 by omega) (by decide) (pn_r N1 _ (by omega)) ?_
            refine k_getR rfl rfl (sc_c S1 (p1 (tlS s c).1) hpk).1 (sc_c S1 (p1 (tlS s c).1) hpk).2.2.2.2.2.2.2.1 ?_
            refine k_iload_n rfl rfl ?_
            refine k_lload_n rfl rfl ?_
            rw [en]
            refine k_l2iN rfl ?_
            refine k_iS rfl (sc_c S1 (p1 (tlS s c).1) hpk).2.1 (j := t0) et (by omega) (by decide) ?_
            refine k_aload_n rfl rfl ?_
            refine k_cV0 rfl cw_S_dropPlan wd_177 (sc_o S1) rfl (by decide) (Nat.le_of_ble_eq_true rfl) ?_
            refine c_S_dropPlan N2 (fun h2 x2 P2 => ?_)
            refine k_iconst (v := nI 1) rfl (by decide) ?_
            refine k_zret rfl rfl (by decide) (Nat.le_refl _) (Nat.le_refl _) ?_
            exact hQ h2 p1 (fr_tr x1 (fr_tr x x2)) P2
          · exact absurd c57 (nI_m1 (by omega))
        · refine k_iconst (v := nI 0) rfl (by decide) ?_
          refine k_zret rfl rfl (by decide) (Nat.le_refl _) (Nat.le_refl _) ?_
          have y := wi_f c42
          rw [← lN0] at y
          rw [if_pos (by rcases y with z | z
                         · exact Or.inr (Or.inr (Or.inr (Or.inr (Or.inl z))))
                         · exact Or.inr (Or.inr (Or.inr (Or.inr (Or.inr (Or.inl z))))))] at hQ
          exact hQ h p fr_rf P
      · refine k_iconst (v := nI 0) rfl (by decide) ?_
        refine k_zret rfl rfl (by decide) (Nat.le_refl _) (Nat.le_refl _) ?_
        rw [if_pos (Or.inr (Or.inr (Or.inr (Or.inl (fun z => c29 (by rw [z]; rfl))))))] at hQ
        exact hQ h p fr_rf P
theorem c_S_counts {g : Gx} {h : Hp} {o d : Nat} {p : Nat → Nat} {s : St} {Q : Option Value → Hp → Prop} (P : PC g h o p s) (I : Inv s) (c : Int32) (n : Int64) (hQ : ∀ h1 p1, hp_fr (inC o) h h1 → PC g h1 o p1 (cuS s 0 c n).2 → Q (some (.int (bI (cuS s 0 c n).1))) h1) : Ct g M_S_counts (d + 3) 0 0 [.ref o, .int c, .long n] h Q := by
  have S := pc_S P
  have bT := v_told I
  have bL := v_lkr I
  refine ct_of ok_S_counts (by decide) (Nat.le_of_ble_eq_true rfl) [some (.ref o), some (.int c), some (.long n), none] rfl rfl ?_
  refine k_aload_n rfl rfl ?_
  refine k_iconst (v := 0) rfl (by decide) ?_
  refine k_iload_n rfl rfl ?_
  refine k_lload_n rfl rfl ?_
  refine k_cV3 rfl cw_S_countsOf wd_157 (sc_o S) rfl (by decide) (Nat.le_of_ble_eq_true rfl) ?_
  refine c_S_countsOf P I 0 c n (fun h1 p1 x1 P1 => ?_)
  refine k_zret rfl rfl (bI_nar _) (Nat.le_refl _) (Nat.le_refl _) ?_
  exact hQ h1 p1 x1 P1
theorem c_S_area {g : Gx} {h : Hp} {o d : Nat} {p : Nat → Nat} {s : St} {Q : Option Value → Hp → Prop} (P : PC g h o p s) (I : Inv s) (c : Int32) (n : Int64) (hQ : ∀ h1 p1, hp_fr (inC o) h h1 → PC g h1 o p1 (arS s c n).2 → Q (some (.int (bI (arS s c n).1))) h1) : Ct g M_S_area (d + 2) 0 0 [.ref o, .int c, .long n] h Q := by
  have S := pc_S P
  have bT := v_told I
  have bL := v_lkr I
  refine ct_of ok_S_area (by decide) (Nat.le_of_ble_eq_true rfl) [some (.ref o), some (.int c), some (.long n), none, none, none] rfl rfl ?_
  have bK := v_lks I
  have hcb := v_cells I
  unfold arS at hQ
  refine k_aload_n rfl rfl ?_
  refine k_iload_n rfl rfl ?_
  refine k_cV1 rfl cw_S_isCell wd_164 (sc_o S) rfl (by decide) (Nat.le_of_ble_eq_true rfl) ?_
  refine c_S_isCell P I c ?_
  refine kb_eq rfl (fun c5 => ?_) (fun c5 => ?_)
  · refine k_iconst (v := nI 0) rfl (by decide) ?_
    refine k_zret rfl rfl (by decide) (Nat.le_refl _) (Nat.le_refl _) ?_
    rw [if_pos (Or.inl c5)] at hQ
    exact hQ h p fr_rf P
  · refine k_aload_n rfl rfl ?_
    refine k_getR rfl rfl (sc_o S) (sc_looks S) ?_
    refine k_gI rfl rfl (sc_g S).1 (pc_g P).1 ?_
    refine k_if_gt rfl (fun c15 => ?_) (fun c15 => ?_)
    · refine k_iconst (v := nI 0) rfl (by decide) ?_
      refine k_zret rfl rfl (by decide) (Nat.le_refl _) (Nat.le_refl _) ?_
      rw [if_pos (Or.inr (Or.inl (Nat.pos_of_ne_zero (fun z => by rw [z] at c15; exact absurd c15 (by decide)))))] at hQ
      exact hQ h p fr_rf P
    · have hl0 : s_lks s = 0 := Nat.eq_zero_of_not_pos (fun z => c15 (nI_lt (a := 0) z (by omega)))
      refine k_lload_n rfl rfl ?_
      refine k_lconst (v := lN 1) rfl (by decide) ?_
      refine k_ldc2 rfl wd_367 ?_
      refine k_cS3 rfl cw_S_isWithin wd_161 (by decide) (Nat.le_of_ble_eq_true rfl) ?_
      refine c_S_isWithin _ _ _ ?_
      refine kb_ne rfl (fun c26 => ?_) (fun c26 => ?_)
      · have y1 := (wi_t c26).1
        have y2 := (wi_t c26).2
        rw [← lN1] at y1
        have y0 : ¬ n < 0 := nneg (b := 1) (by decide) (by rw [← lN1]; exact y1)
        obtain ⟨en, hn63⟩ := LN_of y0
        have hn1 : 1 ≤ LN n := LN_ge (by decide) y0 (by rw [← lN1]; exact y1)
        have hn7 : LN n ≤ 720 := LN_le (b := 720) y0 (by decide) (by rw [show lN 720 = (720 : Int64) by decide +kernel]; exact y2)
        refine k_lload_n rfl rfl ?_
        refine k_l2i rfl ?_
        rw [show n.toInt32 = nI (LN n) from by rw [← lN_i, ← en]]
        refine k_ist4 rfl rfl ?_
        refine k_sipush (v := nI 720) rfl (by decide) ?_
        refine k_iload rfl rfl ?_
        refine k_iremN rfl (by omega) (by omega) (by omega) ?_
        have hml := Nat.mod_lt 720 (show 0 < LN n by omega)
        refine k_if_eq rfl (fun c41 => ?_) (fun c41 => ?_)
        · have hdv : 720 % LN n = 0 := (nI_eq (b := 0) (by omega) (by decide)).mp c41
          refine k_aload_n rfl rfl ?_
          refine k_iload_n rfl rfl ?_
          refine k_cV1 rfl cw_S_tellOf wd_169 (sc_o S) rfl (by decide) (Nat.le_of_ble_eq_true rfl) ?_
          refine c_S_tellOf P I c c5 (fun h1 p1 x1 N1 hk hro => ?_) (fun z1 z2 => ?_)
          rotate_left
          · refine k_ist5 rfl rfl ?_
            refine k_iload rfl rfl ?_
            refine k_iconst (v := -1) rfl (by decide) ?_
            refine k_icmp_ne rfl (fun c56 => ?_) (fun c56 => ?_)
            · exact absurd rfl c56
            refine k_iconst (v := nI 0) rfl (by decide) ?_
            refine k_zret rfl rfl (by decide) (Nat.le_refl _) (Nat.le_refl _) ?_
            rw [if_pos (Or.inr (Or.inr (Or.inr (Or.inr (Or.inr ⟨z1, z2⟩)))))] at hQ
            exact hQ h p fr_rf P
          have S1 := pn_S N1
          have b41 := pn_40 N1
          have hpk := (pn_m N1).1 (tlS s c).1 (by omega)
          rw [if_neg (by rintro (z | z | z | z | z | z)
                         · rw [c5] at z; cases z
                         · omega
                         · exact y1 z
                         · exact y2 z
                         · exact z hdv
                         · exact hro z)] at hQ
          have x : hp_fr (inC o) h1 (hp_ui (hp_ui h1 (ca o (p1 (tlS s c).1)) 6 (nI (LN n))) (ca o (p1 (tlS s c).1)) 7 (nI (720 / LN n))) := fr_tr (fr_ui ⟨by unfold ca; omega, by unfold ca; omega⟩) (fr_ui ⟨by unfold ca; omega, by unfold ca; omega⟩)
          have hr : hp_r (hp_ui (hp_ui h1 (ca o (p1 (tlS s c).1)) 6 (nI (LN n))) (ca o (p1 (tlS s c).1)) 7 (nI (720 / LN n))) = hp_r h1 := rfl
          have E : ∀ a j, ¬ (a = ca o (p1 (tlS s c).1) ∧ (j = 6 ∨ j = 7)) → hp_i (hp_ui (hp_ui h1 (ca o (p1 (tlS s c).1)) 6 (nI (LN n))) (ca o (p1 (tlS s c).1)) 7 (nI (720 / LN n))) a j = hp_i h1 a j := fun a j z => by rw [i_ui, if_neg (fun y => z ⟨y.1, Or.inr y.2⟩), i_ui, if_neg (fun y => z ⟨y.1, Or.inl y.2⟩)]
          have Ej : ∀ (a j : Nat), (o = o) → hp_j (hp_ui (hp_ui h1 (ca o (p1 (tlS s c).1)) 6 (nI (LN n))) (ca o (p1 (tlS s c).1)) 7 (nI (720 / LN n))) a j = hp_j h1 a j := fun _ _ _ => rfl
          have N2 : PN g (hp_ui (hp_ui h1 (ca o (p1 (tlS s c).1)) 6 (nI (LN n))) (ca o (p1 (tlS s c).1)) 7 (nI (720 / LN n))) o p1 (w_ar (tlS s c).2 (va_up (s_ar (tlS s c).2) (tlS s c).1 (LN n))) := ⟨(sc_fr (pn_S N1) x (fun a _ _ k => by rw [hr])), (fun i hi => by rw [hr]; exact pn_r N1 i hi), ⟨pn_m N1, pn_40 (s := (tlS s c).2) N1⟩, (fun i hi => by
            have hi : i < s_told (tlS s c).2 := hi
            have hb := (pn_m N1).1 i (by omega)
            obtain ⟨a1, a2, a3, a4, a6⟩ := pn_t N1 i hi
            by_cases e : i = (tlS s c).1
            · subst e
              refine ⟨(E _ 5 (by unfold ca; omega)).trans a1, ?_, ?_, fun y hy => (E _ y (by unfold ca; omega)).trans (a4 y hy), fun y hy => (E _ y (by unfold ca; omega)).trans (a6 y hy)⟩
              · show _ = nI (va_up (s_ar (tlS s c).2) (tlS s c).1 (LN n) (tlS s c).1)
                rw [va_up_self, i_ui, if_neg (by omega), i_ui, if_pos ⟨rfl, rfl⟩]
              · show _ = nI (720 / va_up (s_ar (tlS s c).2) (tlS s c).1 (LN n) (tlS s c).1)
                rw [va_up_self, i_ui, if_pos ⟨rfl, rfl⟩]
            · have hne : p1 i ≠ p1 (tlS s c).1 := fun z => e ((pn_m N1).2 _ _ (by omega) (by omega) z)
              refine ⟨(E _ 5 (by unfold ca; omega)).trans a1, (E _ 6 (by unfold ca; omega)).trans (a2.trans ?_), (E _ 7 (by unfold ca; omega)).trans (a3.trans ?_), fun y hy => (E _ y (by unfold ca; omega)).trans (a4 y hy), fun y hy => (E _ y (by unfold ca; omega)).trans (a6 y hy)⟩
              · show _ = nI (va_up (s_ar (tlS s c).2) (tlS s c).1 (LN n) i)
                rw [va_up_ne _ _ e]
              · show _ = nI (720 / va_up (s_ar (tlS s c).2) (tlS s c).1 (LN n) i)
                rw [va_up_ne _ _ e]), (fun i hi h4 => by
            have hi : s_told (tlS s c).2 ≤ i := hi
            have hb := (pn_m N1).1 i h4
            have hne : p1 i ≠ p1 (tlS s c).1 := fun z => by have := (pn_m N1).2 _ _ h4 (by omega) z; omega
            exact cF_tr (pn_f N1 i hi h4) (fun q hq j _ => E _ j (by unfold ca; omega))), (fun j hj y hy => (E _ y (by (try unfold ca); (try unfold la); omega)).trans (pn_z N1 j hj y hy)), (fun y hy => (E _ y (by (try unfold ca); (try unfold la); omega)).trans (pn_rt (s := (tlS s c).2) N1 y hy)), (fun y hy => lQ_cg (lQ_tr (s := (tlS s c).2) (pn_l N1 y hy) (fun j _ => E _ j (by (try unfold ca); (try unfold la); omega)) (fun j => E _ j (by (try unfold ca); (try unfold la); omega))) rfl rfl rfl), (gT_cg (gT_tr (s := (tlS s c).2) (pn_g N1) (fun k k1 k2 j => E _ j (by (try unfold ca); (try unfold la); omega)) (fun j => Ej _ j (by (try unfold ca); (try unfold la); omega))) rfl rfl rfl rfl rfl), ((E o 0 (by (try unfold ca); (try unfold la); omega)).trans (pn_cells (s := (tlS s c).2) N1)), ((E o 2 (by (try unfold ca); (try unfold la); omega)).trans (pn_told (s := (tlS s c).2) N1)), ((E o 4 (by (try unfold ca); (try unfold la); omega)).trans (pn_lkr (s := (tlS s c).2) N1)), ((E o 6 (by (try unfold ca); (try unfold la); omega)).trans (pn_things (s := (tlS s c).2) N1)), ((E o 8 (by (try unfold ca); (try unfold la); omega)).trans (pn_seen (s := (tlS s c).2) N1)), ((Ej o 9 (by (try unfold ca); (try unfold la); omega)).trans (pn_ab (s := (tlS s c).2) N1)), ((Ej o 10 (by (try unfold ca); (try unfold la); omega)).trans (pn_bl (s := (tlS s c).2) N1))⟩
          refine k_ist5 rfl rfl ?_
          refine k_iload rfl rfl ?_
          refine k_iconst (v := -1) rfl (by decide) ?_
          refine k_icmp_ne rfl (fun c56 => ?_) (fun c56 => ?_)
          · refine k_aload_n rfl rfl ?_
            refine k_getR rfl rfl (sc_o S1) (sc_told S1) ?_
            refine k_iload rfl rfl ?_
            refine k_aald (q := ca o (p1 (tlS s c).1)) rfl (sc_a2 S1) rfl (by decide) rfl (show (tlS s c).1 < 40 by omega) (by decide) (pn_r N1 _ (by omega)) ?_
            refine k_iload rfl rfl ?_
            refine k_putI rfl rfl rfl (sc_c S1 (p1 (tlS s c).1) hpk).1 ?_
            refine k_aload_n rfl rfl ?_
            refine k_getR rfl rfl (sc_o S1) (sc_told S1) ?_
            refine k_iload rfl rfl ?_
            refine k_aald (q := ca o (p1 (tlS s c).1)) rfl (sc_a2 S1) rfl (by decide) rfl (show (tlS s c).1 < 40 by omega) (by decide) (pn_r N1 _ (by omega)) ?_
            refine k_sipush (v := nI 720) rfl (by decide) ?_
            refine k_iload rfl rfl ?_
            refine k_idivN rfl (by omega) (by omega) (by omega) ?_
            refine k_putI rfl rfl rfl (sc_c S1 (p1 (tlS s c).1) hpk).1 ?_
            refine k_aload_n rfl rfl ?_
            refine k_cV0 rfl cw_S_dropPlan wd_177 (sc_o S1) rfl (by decide) (Nat.le_of_ble_eq_true rfl) ?_
            refine c_S_dropPlan N2 (fun h2 x2 P2 => ?_)
            refine k_iconst (v := nI 1) rfl (by decide) ?_
            refine k_zret rfl rfl (by decide) (Nat.le_refl _) (Nat.le_refl _) ?_
            exact hQ h2 p1 (fr_tr x1 (fr_tr x x2)) P2
          · exact absurd c56 (nI_m1 (by omega))
        · refine k_iconst (v := nI 0) rfl (by decide) ?_
          refine k_zret rfl rfl (by decide) (Nat.le_refl _) (Nat.le_refl _) ?_
          rw [if_pos (Or.inr (Or.inr (Or.inr (Or.inr (Or.inl (fun z => c41 (by rw [z]; rfl)))))))] at hQ
          exact hQ h p fr_rf P
      · refine k_iconst (v := nI 0) rfl (by decide) ?_
        refine k_zret rfl rfl (by decide) (Nat.le_refl _) (Nat.le_refl _) ?_
        have y := wi_f c26
        rw [← lN1] at y
        rw [if_pos (by rcases y with z | z
                       · exact Or.inr (Or.inr (Or.inl z))
                       · exact Or.inr (Or.inr (Or.inr (Or.inl z))))] at hQ
        exact hQ h p fr_rf P
