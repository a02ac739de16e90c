/-- the cells that move writes -/
def inM (m : Nat) (a : Nat) : Prop := a = m + 1 ∨ a = m + 2 ∨ a = m + 3 ∨ a = m + 9
/-- column f has gone to column t, in the rows below i -/
def mvd (h h1 : Hp) (a f t i : Nat) : Prop := ∀ r k, r < 4 → k < 40 → hp_i h1 a (40 * r + k) = if k = t ∧ r < i then hp_i h a (40 * r + f) else hp_i h a (40 * r + k)
theorem c_R_move {g : Gx} {h : Hp} {m d f t : Nat} {Q : Option Value → Hp → Prop} (S : ShR g h m) (hf : f < 40) (ht : t < 40) (hft : f ≠ t) (hQ : ∀ h1, hp_fr (inM m) h h1 → hp_r h1 = hp_r h → (∀ k, hp_i h1 (m + 1) k = if k = t then hp_i h (m + 1) f else hp_i h (m + 1) k) → (∀ k, hp_i h1 (m + 2) k = if k = t then hp_i h (m + 2) f else hp_i h (m + 2) k) → mvd h h1 (m + 3) f t 4 → mvd h h1 (m + 9) f t 4 → Q none h1) : Ct g M_R_move d 0 0 [.ref m, .int (nI f), .int (nI t)] h Q := by
  refine ct_of ok_R_move (by decide) (Nat.le_of_ble_eq_true rfl) [some (.ref m), some (.int (nI f)), some (.int (nI t)), none] rfl rfl ?_
  refine k_aload_n rfl rfl ?_
  refine k_getR rfl rfl (sr_o S) (sr_cell S) ?_
  refine k_iload_n rfl rfl ?_
  refine k_aload_n rfl rfl ?_
  refine k_getR rfl rfl (sr_o S) (sr_cell S) ?_
  refine k_iload_n rfl rfl ?_
  refine k_iA rfl (sr_a1 S) rfl (by omega) (by decide) rfl ?_
  refine k_iS rfl (sr_a1 S) rfl (by omega) (by decide) ?_
  refine k_aload_n rfl rfl ?_
  refine k_getR rfl rfl (sr_o S) (sr_areas S) ?_
  refine k_iload_n rfl rfl ?_
  refine k_aload_n rfl rfl ?_
  refine k_getR rfl rfl (sr_o S) (sr_areas S) ?_
  refine k_iload_n rfl rfl ?_
  refine k_iA (x := hp_i h (m + 2) f) rfl (sr_a2 S) rfl (by omega) (by decide) (by rw [i_ui, if_neg (by omega)]) ?_
  refine k_iS rfl (sr_a2 S) rfl (by omega) (by decide) ?_
  refine k_iconst (v := nI 0) rfl (by decide) ?_
  refine k_ist3 rfl rfl ?_
  suffices H : ∀ (q i : Nat) (h1 : Hp), i + q = 4 → hp_fr (inM m) h h1 → hp_r h1 = hp_r h → (∀ k, hp_i h1 (m + 1) k = if k = t then hp_i h (m + 1) f else hp_i h (m + 1) k) → (∀ k, hp_i h1 (m + 2) k = if k = t then hp_i h (m + 2) f else hp_i h (m + 2) k) → mvd h h1 (m + 3) f t i → mvd h h1 (m + 9) f t i → Om g M_R_move d Q h1 26 [some (.ref m), some (.int (nI f)), some (.int (nI t)), some (.int (nI i))] [] from
    H 4 0 _ rfl (fr_tr (fr_ui (Or.inl rfl)) (fr_ui (Or.inr (Or.inl rfl)))) rfl
      (fun k => by rw [i_ui, if_neg (by omega), i_ui]; by_cases e : k = t
                   · rw [if_pos ⟨rfl, e⟩, if_pos e]
                   · rw [if_neg (fun z => e z.2), if_neg e])
      (fun k => by rw [i_ui]; by_cases e : k = t
                   · rw [if_pos ⟨rfl, e⟩, if_pos e]
                   · rw [if_neg (fun z => e z.2), if_neg e, i_ui, if_neg (by omega)])
      (fun r k _ _ => by rw [if_neg (by omega), i_ui, if_neg (by omega), i_ui, if_neg (by omega)])
      (fun r k _ _ => by rw [if_neg (by omega), i_ui, if_neg (by omega), i_ui, if_neg (by omega)])
  intro q
  induction q with
  | zero =>
    intro i h1 hi hF hr e1 e2 e3 e9
    have ei : i = 4 := by omega
    subst ei
    have S := sr_fr S hF (by rw [hr])
    refine k_iload_n rfl rfl ?_
    refine k_iconst (v := nI 4) rfl (by decide) ?_
    refine kn_ge rfl (by omega) (by omega) (fun c28 => ?_) (fun c28 => ?_)
    · refine k_vret rfl rfl (Nat.le_refl _) (Nat.le_refl _) ?_
      exact hQ h1 hF hr e1 e2 e3 e9
    · exact absurd c28 (by omega)
  | succ q ih =>
    intro i h1 hi hF hr e1 e2 e3 e9
    have S := sr_fr S hF (by rw [hr])
    refine k_iload_n rfl rfl ?_
    refine k_iconst (v := nI 4) rfl (by decide) ?_
    refine kn_ge rfl (by omega) (by omega) (fun c28 => ?_) (fun c28 => ?_)
    · exact absurd c28 (by omega)
    · refine k_aload_n rfl rfl ?_
      refine k_getR rfl rfl (sr_o S) (sr_count S) ?_
      refine k_bipush (v := nI 40) rfl (by decide) ?_
      refine k_iload_n rfl rfl ?_
      refine k_imul rfl ?_
      refine k_iload_n rfl rfl ?_
      refine k_iadd rfl ?_
      refine k_aload_n rfl rfl ?_
      refine k_getR rfl rfl (sr_o S) (sr_count S) ?_
      refine k_bipush (v := nI 40) rfl (by decide) ?_
      refine k_iload_n rfl rfl ?_
      refine k_imul rfl ?_
      refine k_iload_n rfl rfl ?_
      refine k_iadd rfl ?_
      refine k_iA (x := hp_i h (m + 3) (40 * i + f)) rfl (sr_a3 S) (ix40 i f) (by omega) (by decide) ((e3 i f (by omega) hf).trans (if_neg (by omega))) ?_
      refine k_iS rfl (sr_a3 S) (ix40 i t) (by omega) (by decide) ?_
      refine k_aload_n rfl rfl ?_
      refine k_getR rfl rfl (sr_o S) (sr_looked S) ?_
      refine k_bipush (v := nI 40) rfl (by decide) ?_
      refine k_iload_n rfl rfl ?_
      refine k_imul rfl ?_
      refine k_iload_n rfl rfl ?_
      refine k_iadd rfl ?_
      refine k_aload_n rfl rfl ?_
      refine k_getR rfl rfl (sr_o S) (sr_looked S) ?_
      refine k_bipush (v := nI 40) rfl (by decide) ?_
      refine k_iload_n rfl rfl ?_
      refine k_imul rfl ?_
      refine k_iload_n rfl rfl ?_
      refine k_iadd rfl ?_
      refine k_iA (x := hp_i h (m + 9) (40 * i + f)) rfl (sr_a9 S) (ix40 i f) (by omega) (by decide) (((i_ui).trans (if_neg (by omega))).trans ((e9 i f (by omega) hf).trans (if_neg (by omega)))) ?_
      refine k_iS rfl (sr_a9 S) (ix40 i t) (by omega) (by decide) ?_
      refine k_incN3 rfl rfl ?_
      refine k_goto rfl ?_
      refine ih (i + 1) _ (by omega) (fr_tr hF (fr_tr (fr_ui (Or.inr (Or.inr (Or.inl rfl)))) (fr_ui (Or.inr (Or.inr (Or.inr rfl)))))) hr (fun k => ?_) (fun k => ?_) ?_ ?_
      · rw [i_ui, if_neg (by omega), i_ui, if_neg (by omega)]; exact e1 k
      · rw [i_ui, if_neg (by omega), i_ui, if_neg (by omega)]; exact e2 k
      · exact (fun r k hr4 hk4 => by
        rw [i_ui, if_neg (by omega), i_ui]
        by_cases e : k = t ∧ r = i
        · rw [if_pos ⟨rfl, by omega⟩, if_pos (by omega), e.2]
        · rw [if_neg (by omega), e3 r k hr4 hk4]
          by_cases e5 : k = t ∧ r < i
          · rw [if_pos e5, if_pos (by omega)]
          · rw [if_neg e5, if_neg (by omega)])
      · exact (fun r k hr4 hk4 => by
        rw [i_ui]
        by_cases e : k = t ∧ r = i
        · rw [if_pos ⟨rfl, by omega⟩, if_pos (by omega), e.2]
        · rw [if_neg (by omega), i_ui, if_neg (by omega), e9 r k hr4 hk4]
          by_cases e5 : k = t ∧ r < i
          · rw [if_pos e5, if_pos (by omega)]
          · rw [if_neg e5, if_neg (by omega)])
def insN (f : Nat → Nat) (k v : Nat) : Nat → Nat := fun j => if j < k then f j else if j = k then v else f (j - 1)
/-- where a new cell c goes among the first k -/
def dnF (f : Nat → Nat) (c : Nat) : Nat → Nat
  | 0 => 0
  | k + 1 => if c < f k then dnF f c k else k + 1
theorem dnF_le (f : Nat → Nat) (c : Nat) : ∀ k, dnF f c k ≤ k
  | 0 => Nat.le_refl _
  | k + 1 => by
    have := dnF_le f c k
    simp only [dnF]
    split <;> omega
def tlT (s : St) (c k : Nat) : St := (s_cells s, s_told s + 1, insN (s_num s) k c, insN (s_ar s) k 60, (fun t => insN (s_cn s t) k 0), s_things s, s_lkr s, s_rt s, s_hr s, s_bd s, s_pl s, (fun l => insN (s_ld s l) k 0), s_lks s, s_gl s, s_gc s, s_gh s, s_gt s, s_seen s, s_ab s, s_bl s)
/-- the told cell c: the state with it, and its place -/
def tlS (s : St) (c : Int32) : Nat × St := match plS s c with
  | some k => (k, s)
  | none => (dnF (s_num s) c.toNatClampNeg (s_told s), tlT s c.toNatClampNeg (dnF (s_num s) c.toNatClampNeg (s_told s)))
theorem c_R_tell {g : Gx} {h : Hp} {m d : Nat} {s : St} {Q : Option Value → Hp → Prop} (P : PR g h m s) (I : Inv s) (c : Int32) (hc : isc (nI (s_cells s)) c = true) (hroom : plS s c ≠ none ∨ s_told s < 40) (hQ : ∀ h1, hp_fr (inR m) h h1 → PR g h1 m (tlS s c).2 → Q (some (.int (nI (tlS s c).1))) h1) : Ct g M_R_tell (d + 1) 0 0 [.ref m, .int c] h Q := by
  have S := pr_S P
  have bT := v_told I
  have bL := v_lkr I
  refine ct_of ok_R_tell (by decide) (Nat.le_of_ble_eq_true rfl) [some (.ref m), some (.int c), none, none, none] rfl rfl ?_
  have hcb := v_cells I
  unfold tlS at hQ
  cases hp : plS s c with
  | some k =>
    have hk := plS_lt hp
    rw [hp] at hQ
    refine k_aload_n rfl rfl ?_
    refine k_iload_n rfl rfl ?_
    refine k_cV1 rfl cw_R_place wd_455 (sr_o S) rfl (by decide) (Nat.le_of_ble_eq_true rfl) ?_
    refine c_R_place P I c ?_
    rw [hp]
    refine k_ist2 rfl rfl ?_
    refine k_iload_n rfl rfl ?_
    refine k_iconst (v := -1) rfl (by decide) ?_
    refine k_icmp_eq rfl (fun c8 => ?_) (fun c8 => ?_)
    · exact absurd c8 (nI_m1 (by omega))
    · refine k_iload_n rfl rfl ?_
      refine k_iret rfl rfl (Nat.le_refl _) (Nat.le_refl _) ?_
      exact hQ h fr_rf P
  | none =>
    have hT : s_told s < 40 := hroom.resolve_left (fun z => z hp)
    obtain ⟨c0, hc0, ec, ecl⟩ := isc_of (by omega) hc
    rw [hp, ecl] at hQ
    simp only at hQ
    subst ec
    refine k_aload_n rfl rfl ?_
    refine k_iload_n rfl rfl ?_
    refine k_cV1 rfl cw_R_place wd_455 (sr_o S) rfl (by decide) (Nat.le_of_ble_eq_true rfl) ?_
    refine c_R_place P I (nI c0) ?_
    rw [hp]
    refine k_ist2 rfl rfl ?_
    refine k_iload_n rfl rfl ?_
    refine k_iconst (v := -1) rfl (by decide) ?_
    refine k_icmp_eq rfl (fun c8 => ?_) (fun c8 => ?_)
    · refine k_aload_n rfl rfl ?_
      refine k_gI rfl rfl (sr_o S) (pr_told P) ?_
      refine k_ist3 rfl rfl ?_
      suffices H : ∀ (k : Nat) (h1 : Hp), k ≤ s_told s → hp_fr (inM m) h h1 → hp_r h1 = hp_r h → dnF (s_num s) c0 (s_told s) = dnF (s_num s) c0 k → (∀ k1, k1 ≤ s_told s → k1 ≠ k → hp_i h1 (m + 1) k1 = nI (if k1 < k then s_num s k1 else s_num s (k1 - 1))) → (∀ k1, k1 ≤ s_told s → k1 ≠ k → hp_i h1 (m + 2) k1 = nI (if k1 < k then s_ar s k1 else s_ar s (k1 - 1))) → (∀ r k1, r < 4 → k1 ≤ s_told s → k1 ≠ k → hp_i h1 (m + 3) (40 * r + k1) = nI (if k1 < k then s_cn s r k1 else s_cn s r (k1 - 1))) → (∀ r k1, r < 4 → k1 ≤ s_told s → k1 ≠ k → hp_i h1 (m + 9) (40 * r + k1) = nI (if k1 < k then s_ld s r k1 else s_ld s r (k1 - 1))) → Om g M_R_tell (d + 1) Q h1 18 [some (.ref m), some (.int (nI c0)), some (.int (-1)), some (.int (nI k)), none] [] from
        H (s_told s) h (Nat.le_refl _) fr_rf rfl rfl (fun k1 a b => by rw [if_pos (by omega)]; exact pr_num P k1 (by omega)) (fun k1 a b => by rw [if_pos (by omega)]; exact pr_ar P k1 (by omega)) (fun r k1 z a b => by rw [if_pos (by omega)]; exact pr_cn P r k1 z (by omega)) (fun r k1 z a b => by rw [if_pos (by omega)]; exact pr_ld P r k1 z (by omega))
      have J : ∀ (k : Nat) (h1 : Hp), k ≤ s_told s → hp_fr (inM m) h h1 → hp_r h1 = hp_r h → dnF (s_num s) c0 (s_told s) = k → (∀ k1, k1 ≤ s_told s → k1 ≠ k → hp_i h1 (m + 1) k1 = nI (if k1 < k then s_num s k1 else s_num s (k1 - 1))) → (∀ k1, k1 ≤ s_told s → k1 ≠ k → hp_i h1 (m + 2) k1 = nI (if k1 < k then s_ar s k1 else s_ar s (k1 - 1))) → (∀ r k1, r < 4 → k1 ≤ s_told s → k1 ≠ k → hp_i h1 (m + 3) (40 * r + k1) = nI (if k1 < k then s_cn s r k1 else s_cn s r (k1 - 1))) → (∀ r k1, r < 4 → k1 ≤ s_told s → k1 ≠ k → hp_i h1 (m + 9) (40 * r + k1) = nI (if k1 < k then s_ld s r k1 else s_ld s r (k1 - 1))) → Om g M_R_tell (d + 1) Q h1 48 [some (.ref m), some (.int (nI c0)), some (.int (-1)), some (.int (nI k)), none] [] := by
        intro k h1 hk hF hr ed e1 e2 e3 e9
        have S1 := sr_fr S hF (by rw [hr])
        refine k_aload_n rfl rfl ?_
        refine k_getR rfl rfl (sr_o S1) (sr_cell S1) ?_
        refine k_iload_n rfl rfl ?_
        refine k_iload_n rfl rfl ?_
        refine k_iS rfl (sr_a1 S1) rfl (by omega) (by decide) ?_
        refine k_aload_n rfl rfl ?_
        refine k_getR rfl rfl (sr_o S1) (sr_areas S1) ?_
        refine k_iload_n rfl rfl ?_
        refine k_bipush (v := nI 60) rfl (by decide) ?_
        refine k_iS rfl (sr_a2 S1) rfl (by omega) (by decide) ?_
        refine k_iconst (v := nI 0) rfl (by decide) ?_
        refine k_ist4 rfl rfl ?_
        suffices H9 : ∀ (q i : Nat) (h2 : Hp), i + q = 4 → hp_fr (inM m) h1 h2 → hp_r h2 = hp_r h1 → (∀ j, hp_i h2 (m + 1) j = if j = k then nI c0 else hp_i h1 (m + 1) j) → (∀ j, hp_i h2 (m + 2) j = if j = k then nI 60 else hp_i h1 (m + 2) j) → (∀ r k1, r < 4 → k1 < 40 → hp_i h2 (m + 3) (40 * r + k1) = if k1 = k ∧ r < i then 0 else hp_i h1 (m + 3) (40 * r + k1)) → (∀ r k1, r < 4 → k1 < 40 → hp_i h2 (m + 9) (40 * r + k1) = if k1 = k ∧ r < i then 0 else hp_i h1 (m + 9) (40 * r + k1)) → Om g M_R_tell (d + 1) Q h2 66 [some (.ref m), some (.int (nI c0)), some (.int (-1)), some (.int (nI k)), some (.int (nI i))] [] from
          H9 4 0 _ rfl (fr_tr (fr_ui (Or.inl rfl)) (fr_ui (Or.inr (Or.inl rfl)))) rfl
            (fun j => by rw [i_ui, if_neg (by omega), i_ui]; by_cases e : j = k
                         · rw [if_pos ⟨rfl, e⟩, if_pos e]
                         · rw [if_neg (fun z => e z.2), if_neg e])
            (fun j => by rw [i_ui]; by_cases e : j = k
                         · rw [if_pos ⟨rfl, e⟩, if_pos e]
                         · rw [if_neg (fun z => e z.2), if_neg e, i_ui, if_neg (by omega)])
            (fun r k1 _ _ => by rw [if_neg (by omega), i_ui, if_neg (by omega), i_ui, if_neg (by omega)])
            (fun r k1 _ _ => by rw [if_neg (by omega), i_ui, if_neg (by omega), i_ui, if_neg (by omega)])
        intro q
        induction q with
        | zero =>
          intro i h2 hi hF2 hr2 n1 n2 n3 n9
          have ei : i = 4 := by omega
          subst ei
          have S2 := sr_fr S1 hF2 (by rw [hr2])
          have hfr := fr_tr hF hF2
          have hi' : ∀ a, ¬ inM m a → ∀ j, hp_i h2 a j = hp_i h a j := fun a ha j => fr_i hfr ha j
          have hj' : ∀ a, ¬ inM m a → ∀ j, hp_j h2 a j = hp_j h a j := fun a ha j => fr_j hfr ha j
          have hT1 : hp_i h2 m 1 = nI (s_told s) := (hi' m (by unfold inM; omega) 1).trans (pr_told P)
          refine k_iload rfl rfl ?_
          refine k_iconst (v := nI 4) rfl (by decide) ?_
          refine kn_ge rfl (by omega) (by omega) (fun c69 => ?_) (fun c69 => ?_)
          · refine k_aload_n rfl rfl ?_
            refine k_dup rfl rfl ?_
            refine k_gI rfl rfl (sr_o S2) hT1 ?_
            refine k_iconst (v := nI 1) rfl (by decide) ?_
            refine k_iaddN rfl ?_
            refine k_putI rfl rfl rfl (sr_o S2) ?_
            have P1 : PR g (hp_ui h2 m 1 (nI (s_told s + 1))) m (tlT s c0 k) := ⟨S2, ((by rw [i_ui, if_neg (by omega)]; exact (hi' _ (by unfold inM; omega) _).trans (pr_cells (s := s) P))), (by rw [i_ui, if_pos ⟨rfl, rfl⟩]; rfl), (fun k1 y => by
                have y : k1 < s_told s + 1 := y
                show _ = nI (insN (s_num s) k c0 k1)
                unfold insN
                rw [i_ui, if_neg (by omega), n1 k1]
                by_cases q1 : k1 = k
                · rw [if_pos q1, if_neg (by omega), if_pos q1]
                · rw [if_neg q1]
                  rw [e1 k1 (by omega) q1]
                  by_cases q2 : k1 < k
                  · rw [if_pos q2, if_pos q2]
                  · rw [if_neg q2, if_neg q2, if_neg q1]), (fun k1 y => by
                have y : k1 < s_told s + 1 := y
                show _ = nI (insN (s_ar s) k 60 k1)
                unfold insN
                rw [i_ui, if_neg (by omega), n2 k1]
                by_cases q1 : k1 = k
                · rw [if_pos q1, if_neg (by omega), if_pos q1]
                · rw [if_neg q1]
                  rw [e2 k1 (by omega) q1]
                  by_cases q2 : k1 < k
                  · rw [if_pos q2, if_pos q2]
                  · rw [if_neg q2, if_neg q2, if_neg q1]), (fun r k1 z y => by
                have y : k1 < s_told s + 1 := y
                show _ = nI (insN (s_cn s r) k 0 k1)
                unfold insN
                rw [i_ui, if_neg (by omega), n3 r k1 z (by omega)]
                by_cases q1 : k1 = k
                · rw [if_pos ⟨q1, z⟩, if_neg (by omega), if_pos q1]; rfl
                · rw [if_neg (by omega)]
                  rw [e3 r k1 z (by omega) q1]
                  by_cases q2 : k1 < k
                  · rw [if_pos q2, if_pos q2]
                  · rw [if_neg q2, if_neg q2, if_neg q1]), ((by rw [i_ui, if_neg (by omega)]; exact (hi' _ (by unfold inM; omega) _).trans (pr_things (s := s) P))), ((by rw [i_ui, if_neg (by omega)]; exact (hi' _ (by unfold inM; omega) _).trans (pr_lkr (s := s) P))), (fun k z => (by rw [i_ui, if_neg (by omega)]; exact (hi' _ (by unfold inM; omega) _).trans (pr_rt (s := s) P k z))), (fun k z => (by rw [i_ui, if_neg (by omega)]; exact (hi' _ (by unfold inM; omega) _).trans (pr_hr (s := s) P k z))), (fun t k z y => (by rw [i_ui, if_neg (by omega)]; exact (hi' _ (by unfold inM; omega) _).trans (pr_bd (s := s) P t k z y))), (fun t k z y => (by rw [i_ui, if_neg (by omega)]; exact (hi' _ (by unfold inM; omega) _).trans (pr_pl (s := s) P t k z y))), (fun r k1 z y => by
                have y : k1 < s_told s + 1 := y
                show _ = nI (insN (s_ld s r) k 0 k1)
                unfold insN
                rw [i_ui, if_neg (by omega), n9 r k1 z (by omega)]
                by_cases q1 : k1 = k
                · rw [if_pos ⟨q1, z⟩, if_neg (by omega), if_pos q1]; rfl
                · rw [if_neg (by omega)]
                  rw [e9 r k1 z (by omega) q1]
                  by_cases q2 : k1 < k
                  · rw [if_pos q2, if_pos q2]
                  · rw [if_neg q2, if_neg q2, if_neg q1]), ((by rw [i_ui, if_neg (by omega)]; exact (hi' _ (by unfold inM; omega) _).trans (pr_lks (s := s) P))), (fun k z => (by rw [i_ui, if_neg (by omega)]; exact (hi' _ (by unfold inM; omega) _).trans (pr_gl (s := s) P k z))), (fun k z => (by rw [i_ui, if_neg (by omega)]; exact (hi' _ (by unfold inM; omega) _).trans (pr_gc (s := s) P k z))), (fun k z => (by rw [i_ui, if_neg (by omega)]; exact (hi' _ (by unfold inM; omega) _).trans (pr_gh (s := s) P k z))), (fun k z => (hj' _ (by unfold inM; omega) _).trans (pr_gt (s := s) P k z)), ((by rw [i_ui, if_neg (by omega)]; exact (hi' _ (by unfold inM; omega) _).trans (pr_seen (s := s) P))), ((hj' _ (by unfold inM; omega) _).trans (pr_ab (s := s) P)), ((hj' _ (by unfold inM; omega) _).trans (pr_bl (s := s) P))⟩
            have x1 : hp_fr (inR m) h (hp_ui h2 m 1 (nI (s_told s + 1))) := fr_tr (fr_mono hfr (fun a ha => by unfold inM at ha; exact ⟨by omega, by omega⟩)) (fr_ui ⟨by omega, by omega⟩)
            refine k_iload_n rfl rfl ?_
            refine k_iret rfl rfl (Nat.le_refl _) (Nat.le_refl _) ?_
            rw [ed] at hQ
            exact hQ _ x1 P1
          · exact absurd c69 (by omega)
        | succ q ih =>
          intro i h2 hi hF2 hr2 n1 n2 n3 n9
          have S2 := sr_fr S1 hF2 (by rw [hr2])
          refine k_iload rfl rfl ?_
          refine k_iconst (v := nI 4) rfl (by decide) ?_
          refine kn_ge rfl (by omega) (by omega) (fun c69 => ?_) (fun c69 => ?_)
          · exact absurd c69 (by omega)
          · refine k_aload_n rfl rfl ?_
            refine k_getR rfl rfl (sr_o S2) (sr_count S2) ?_
            refine k_bipush (v := nI 40) rfl (by decide) ?_
            refine k_iload rfl rfl ?_
            refine k_imul rfl ?_
            refine k_iload_n rfl rfl ?_
            refine k_iadd rfl ?_
            refine k_iconst (v := nI 0) rfl (by decide) ?_
            refine k_iS rfl (sr_a3 S2) (ix40 i k) (by omega) (by decide) ?_
            refine k_aload_n rfl rfl ?_
            refine k_getR rfl rfl (sr_o S2) (sr_looked S2) ?_
            refine k_bipush (v := nI 40) rfl (by decide) ?_
            refine k_iload rfl rfl ?_
            refine k_imul rfl ?_
            refine k_iload_n rfl rfl ?_
            refine k_iadd rfl ?_
            refine k_iconst (v := nI 0) rfl (by decide) ?_
            refine k_iS rfl (sr_a9 S2) (ix40 i k) (by omega) (by decide) ?_
            refine k_incN4 rfl rfl ?_
            refine k_goto rfl ?_
            refine ih (i + 1) _ (by omega) (fr_tr hF2 (fr_tr (fr_ui (Or.inr (Or.inr (Or.inl rfl)))) (fr_ui (Or.inr (Or.inr (Or.inr rfl)))))) hr2 (fun j => ?_) (fun j => ?_) ?_ ?_
            · rw [i_ui, if_neg (by omega), i_ui, if_neg (by omega)]; exact n1 j
            · rw [i_ui, if_neg (by omega), i_ui, if_neg (by omega)]; exact n2 j
            · exact (fun r k1 hr4 hk4 => by
              rw [i_ui, if_neg (by omega), i_ui]
              by_cases e : k1 = k ∧ r = i
              · rw [if_pos ⟨rfl, by omega⟩, if_pos (by omega)]; rfl
              · rw [if_neg (by omega), n3 r k1 hr4 hk4]
                by_cases e5 : k1 = k ∧ r < i
                · rw [if_pos e5, if_pos (by omega)]
                · rw [if_neg e5, if_neg (by omega)])
            · exact (fun r k1 hr4 hk4 => by
              rw [i_ui]
              by_cases e : k1 = k ∧ r = i
              · rw [if_pos ⟨rfl, by omega⟩, if_pos (by omega)]; rfl
              · rw [if_neg (by omega), i_ui, if_neg (by omega), n9 r k1 hr4 hk4]
                by_cases e5 : k1 = k ∧ r < i
                · rw [if_pos e5, if_pos (by omega)]
                · rw [if_neg e5, if_neg (by omega)])
      intro k
      induction k with
      | zero =>
        intro h1 hk hF hr ed e1 e2 e3 e9
        refine k_iload_n rfl rfl ?_
        refine k_if_le rfl (fun c19 => ?_) (fun c19 => ?_)
        · exact J 0 h1 hk hF hr ed e1 e2 e3 e9
        · exact absurd (show nI 0 ≤ 0 by decide) c19
      | succ k ih =>
        intro h1 hk hF hr ed e1 e2 e3 e9
        have S1 := sr_fr S hF (by rw [hr])
        have hnk := v_num I k (by omega)
        simp only [dnF] at ed
        refine k_iload_n rfl rfl ?_
        refine k_if_le rfl (fun c19 => ?_) (fun c19 => ?_)
        · exact absurd ((nI_leI (b := 0) (by omega) (by decide)).mp c19) (by omega)
        · refine k_aload_n rfl rfl ?_
          refine k_getR rfl rfl (sr_o S1) (sr_cell S1) ?_
          refine k_iload_n rfl rfl ?_
          refine k_iconst (v := 1) rfl (by decide) ?_
          refine k_isub rfl ?_
          rw [nI_pred]
          refine k_iA (x := nI (s_num s k)) rfl (sr_a1 S1) rfl (by omega) (by decide) (by rw [e1 k (by omega) (by omega), if_pos (by omega)]) ?_
          refine k_iload_n rfl rfl ?_
          refine kn_le rfl (by omega) (by omega) (fun c31 => ?_) (fun c31 => ?_)
          · rw [if_neg (by omega)] at ed
            exact J (k + 1) h1 hk hF hr ed e1 e2 e3 e9
          · rw [if_pos c31] at ed
            refine k_aload_n rfl rfl ?_
            refine k_iload_n rfl rfl ?_
            refine k_iconst (v := 1) rfl (by decide) ?_
            refine k_isub rfl ?_
            rw [nI_pred]
            refine k_iload_n rfl rfl ?_
            refine k_cV2 rfl cw_R_move wd_463 (sr_o S1) rfl (by decide) (Nat.le_of_ble_eq_true rfl) ?_
            refine c_R_move S1 (by omega) (by omega) (by omega) (fun h2 x2 r2 m1 m2 m3 m9 => ?_)
            refine k_decN3 rfl rfl ?_
            refine k_goto rfl ?_
            refine ih h2 (by omega) (fr_tr hF x2) (r2.trans hr) ed ?_ ?_ ?_ ?_
            · intro k1 a b
              have y := m1 k1
              rw [y]
              by_cases q : k1 = k + 1
              · rw [if_pos q]
                rw [e1 k (by omega) (by omega), if_pos (by omega), if_neg (by omega)]
                congr 2
                omega
              · rw [if_neg q]
                rw [e1 k1 a q]
                by_cases q2 : k1 < k
                · rw [if_pos (by omega), if_pos q2]
                · rw [if_neg (by omega), if_neg q2]
            · intro k1 a b
              have y := m2 k1
              rw [y]
              by_cases q : k1 = k + 1
              · rw [if_pos q]
                rw [e2 k (by omega) (by omega), if_pos (by omega), if_neg (by omega)]
                congr 2
                omega
              · rw [if_neg q]
                rw [e2 k1 a q]
                by_cases q2 : k1 < k
                · rw [if_pos (by omega), if_pos q2]
                · rw [if_neg (by omega), if_neg q2]
            · intro r k1 z a b
              have y := m3 r k1 z (by omega)
              rw [y]
              by_cases q : k1 = k + 1
              · rw [if_pos (by omega)]
                rw [e3 r k z (by omega) (by omega), if_pos (by omega), if_neg (by omega)]
                congr 2
                omega
              · rw [if_neg (by omega)]
                rw [e3 r k1 z a q]
                by_cases q2 : k1 < k
                · rw [if_pos (by omega), if_pos q2]
                · rw [if_neg (by omega), if_neg q2]
            · intro r k1 z a b
              have y := m9 r k1 z (by omega)
              rw [y]
              by_cases q : k1 = k + 1
              · rw [if_pos (by omega)]
                rw [e9 r k z (by omega) (by omega), if_pos (by omega), if_neg (by omega)]
                congr 2
                omega
              · rw [if_neg (by omega)]
                rw [e9 r k1 z a q]
                by_cases q2 : k1 < k
                · rw [if_pos (by omega), if_pos q2]
                · rw [if_neg (by omega), if_neg q2]
    · exact absurd rfl c8
