theorem msP_pl (s : St) (F : Nat → Nat → Nat) (f : Nat → Nat) (k : Nat) : ∀ l, msP (w_pl s F) f k l = msP s f k l
  | 0 => rfl
  | l + 1 => by
    show msP (w_pl s F) f k l * ms1 s f k l = _
    rw [msP_pl s F f k l]; rfl
theorem wo_pl (s : St) (F G : Nat → Nat → Nat) : ∀ n, wo (w_pl s F) G n = wo s G n
  | 0 => rfl
  | n + 1 => by
    show wo (w_pl s F) G n + wtN s n * (268738560000 - msP (w_pl s F) (fun l => G l n) n 4) = _
    rw [wo_pl s F G n, msP_pl]; rfl
theorem usN_pl (s : St) (F : Nat → Nat → Nat) (l : Nat) : ∀ q, usN (w_pl s F) l q = usN s l q
  | 0 => rfl
  | q + 1 => by
    show usN (w_pl s F) l q + (if s_bd s l q then 0 else 1) = _
    rw [usN_pl s F l q]; rfl
theorem us_pl (s : St) (F : Nat → Nat → Nat) (l : Nat) : us (w_pl s F) l = us s l := usN_pl s F l (s_hr s l)
theorem Inv_pl {s : St} (I : Inv s) {F : Nat → Nat → Nat} (h : ∀ l k, l < 4 → k < 40 → F l k ≤ 100) : Inv (w_pl s F) :=
  ⟨v_told (s := s) I, v_lkr (s := s) I, v_things (s := s) I, v_lks (s := s) I, v_cells (s := s) I, v_num (s := s) I, v_ord (s := s) I, v_ar (s := s) I, v_cn (s := s) I, v_rt (s := s) I, v_hr (s := s) I, h, v_ld (s := s) I, v_log (s := s) I, v_seen (s := s) I, v_ab (s := s) I, v_bl (s := s) I⟩
def bmp (F : Nat → Nat → Nat) (l k : Nat) : Nat → Nat → Nat := fun l1 k1 => if l1 = l ∧ k1 = k then F l1 k1 + 1 else F l1 k1
def scK (s : St) (F : Nat → Nat → Nat) (l : Nat) : Nat → Nat → Option Nat → Nat → Option Nat × Nat
  | 0, _, b, mo => (b, mo)
  | q + 1, k, b, mo => scK s F l q (k + 1) (if mo < wo s (bmp F l k) (s_told s) then some (40 * l + k) else b) (if mo < wo s (bmp F l k) (s_told s) then wo s (bmp F l k) (s_told s) else mo)
def scL (s : St) (F : Nat → Nat → Nat) : Nat → Nat → Option Nat → Nat → Option Nat × Nat
  | 0, _, b, mo => (b, mo)
  | q + 1, l, b, mo => if gv F l (s_told s) < us s l then scL s F q (l + 1) (scK s F l (s_told s) 0 b mo).1 (scK s F l (s_told s) 0 b mo).2 else scL s F q (l + 1) b mo
/-- the place of the hour that finds most, if it finds more -/
def bst (s : St) (F : Nat → Nat → Nat) : Option Nat := (scL s F (s_lkr s) 0 none (wo s F (s_told s))).1
def shF (s : St) : Nat → (Nat → Nat → Nat) → Nat → Nat → Nat
  | 0, F => F
  | q + 1, F => match bst s F with
    | none => F
    | some j => shF s q (bmp F (j / 40) (j % 40))
def shS (s : St) (n : Int32) : Int32 × St := if n < 0 ∨ nI 100 < n then (-1, s) else (nI (szN (w_pl s (shF s n.toNatClampNeg (fun _ _ => 0))) (s_lkr s)), w_pl s (shF s n.toNatClampNeg (fun _ _ => 0)))
/-- a place of the plan -/
def okB (s : St) (b : Option Nat) : Prop := ∀ j, b = some j → ∃ l k, j = 40 * l + k ∧ l < s_lkr s ∧ k < s_told s
theorem bmp_le {F : Nat → Nat → Nat} {B l k : Nat} (h : ∀ l k, F l k ≤ B) : ∀ l1 k1, bmp F l k l1 k1 ≤ B + 1 := by
  intro l1 k1
  have := h l1 k1
  unfold bmp
  split <;> omega
/-- one hour of the plan goes up, or down again -/
theorem PR_bmp {g : Gx} {h : Hp} {m : Nat} {s : St} {F : Nat → Nat → Nat} {l k : Nat} (P : PR g h m (w_pl s F)) (hl : l < 4) (hk : k < 40) : PR g (hp_ui h (m + 7) (40 * l + k) (nI (F l k + 1))) m (w_pl s (bmp F l k)) := by
  refine PR_pl (s := w_pl s F) P (fr_ui rfl) rfl (fun l1 k1 h1 h2 => ?_)
  rw [i_ui]
  unfold bmp
  by_cases e : l1 = l ∧ k1 = k
  · rw [if_pos ⟨rfl, by omega⟩, if_pos e, e.1, e.2]
  · rw [if_neg (by omega), if_neg e]
    exact pr_pl P l1 k1 h1 h2
theorem PR_unb {g : Gx} {h : Hp} {m : Nat} {s : St} {F : Nat → Nat → Nat} {l k : Nat} (P : PR g h m (w_pl s (bmp F l k))) (hl : l < 4) (hk : k < 40) : PR g (hp_ui h (m + 7) (40 * l + k) (nI (F l k))) m (w_pl s F) := by
  refine PR_pl (s := w_pl s (bmp F l k)) P (fr_ui rfl) rfl (fun l1 k1 h1 h2 => ?_)
  rw [i_ui]
  by_cases e : l1 = l ∧ k1 = k
  · rw [if_pos ⟨rfl, by omega⟩, e.1, e.2]
  · rw [if_neg (by omega)]
    have y := pr_pl P l1 k1 h1 h2
    have y2 : s_pl (w_pl s (bmp F l k)) l1 k1 = F l1 k1 := by
      show bmp F l k l1 k1 = _
      unfold bmp
      rw [if_neg e]
    rw [y2] at y
    exact y
theorem c_R_share {g : Gx} {h : Hp} {m d : Nat} {s : St} {Q : Option Value → Hp → Prop} (P : PR g h m s) (I : Inv s) (n : Int32) (hQ : ∀ h1, hp_fr (inR m) h h1 → PR g h1 m (shS s n).2 → Q (some (.int (shS s n).1)) h1) : Ct g M_R_share (d + 2) 0 0 [.ref m, .int n] h Q := by
  have S := pr_S P
  have bT := v_told I
  have bL := v_lkr I
  refine ct_of ok_R_share (by decide) (Nat.le_of_ble_eq_true rfl) [some (.ref m), some (.int n), none, none, none, none, none, none, none, none, none, none, none] rfl rfl ?_
  unfold shS at hQ
  refine k_iload_n rfl rfl ?_
  refine k_if_lt rfl (fun c1 => ?_) (fun c1 => ?_)
  · refine k_iconst (v := -1) rfl (by decide) ?_
    refine k_iret rfl rfl (Nat.le_refl _) (Nat.le_refl _) ?_
    rw [if_pos (Or.inl c1)] at hQ; exact hQ h fr_rf P
  · refine k_iload_n rfl rfl ?_
    refine k_bipush (v := nI 100) rfl (by decide) ?_
    refine k_icmp_le rfl (fun c7 => ?_) (fun c7 => ?_)
    · refine k_aload_n rfl rfl ?_
      obtain ⟨n0, hn0, en⟩ := nI_of c1
      have hn1 : n0 ≤ 100 := by rw [en] at c7; exact (nI_leI hn0 (by decide)).mp c7
      rw [if_neg (fun z => z.elim c1 (fun z => absurd c7 (Int32.not_le.mpr z)))] at hQ
      have enl : n.toNatClampNeg = n0 := by rw [en, nI_clamp hn0]
      rw [enl] at hQ
      clear enl
      subst en
      refine k_cV0 rfl cw_R_changed wd_467 (sr_o S) rfl (by decide) (Nat.le_of_ble_eq_true rfl) ?_
      refine c_R_changed P (fun h2 x2 P2 => ?_)
      refine k_iconst (v := nI 1) rfl (by decide) ?_
      refine k_ist2 rfl rfl ?_
      refine k_iconst (v := nI 0) rfl (by decide) ?_
      refine k_ist3 rfl rfl ?_
      have Jend : ∀ (F : Nat → Nat → Nat) (h1 : Hp) (z2 z3 z4 z6 z8 z9 z10 z11 : Option Value), hp_fr (inR m) h h1 → PR g h1 m (w_pl s F) → (∀ l k, F l k ≤ 100) → shF s n0 (fun _ _ => 0) = F → Om g M_R_share (d + 2) Q h1 218 [some (.ref m), some (.int (nI n0)), z2, z3, z4, none, z6, none, z8, z9, z10, z11, none] [] := by
        intro F h1 z2 z3 z4 z6 z8 z9 z10 z11 x1 P1 hFb eF
        have S1 := pr_S P1
        refine k_aload_n rfl rfl ?_
        refine k_cV0 rfl cw_R_size wd_528 (sr_o S1) rfl (by decide) (Nat.le_of_ble_eq_true rfl) ?_
        refine c_R_size P1 (Inv_pl I (fun l k h1 h2 => by have := hFb l k; omega)) ?_
        refine k_iret rfl rfl (Nat.le_refl _) (Nat.le_refl _) ?_
        subst eF
        exact hQ _ x1 P1
      suffices H : ∀ (q i : Nat) (F : Nat → Nat → Nat) (h1 : Hp) (z4 z6 z8 z9 z10 z11 : Option Value), i + q = n0 → hp_fr (inR m) h h1 → PR g h1 m (w_pl s F) → (∀ l k, F l k ≤ i) → shF s n0 (fun _ _ => 0) = shF s q F → Om g M_R_share (d + 2) Q h1 20 [some (.ref m), some (.int (nI n0)), some (.int (nI 1)), some (.int (nI i)), z4, none, z6, none, z8, z9, z10, z11, none] [] from H n0 0 (fun _ _ => 0) h2 none none none none none none (Nat.zero_add _) x2 P2 (fun _ _ => Nat.zero_le _) rfl
      intro q
      induction q with
      | zero =>
        intro i F h1 z4 z6 z8 z9 z10 z11 hi x1 P1 hFb eF
        have S1 := pr_S P1
        refine k_iload_n rfl rfl ?_
        refine k_iload_n rfl rfl ?_
        refine kn_ge rfl (by omega) (by omega) (fun c22 => ?_) (fun c22 => ?_)
        · exact Jend F h1 _ _ _ _ _ _ _ _ x1 P1 (fun l k => by have := hFb l k; omega) eF
        · exact absurd c22 (by omega)
      | succ q ih =>
        intro i F h1 z4 z6 z8 z9 z10 z11 hi x1 P1 hFb eF
        have S1 := pr_S P1
        have I1 : Inv (w_pl s F) := Inv_pl I (fun l k h1 h2 => by have := hFb l k; omega)
        refine k_iload_n rfl rfl ?_
        refine k_iload_n rfl rfl ?_
        refine kn_ge rfl (by omega) (by omega) (fun c22 => ?_) (fun c22 => ?_)
        · exact absurd c22 (by omega)
        · refine k_iload_n rfl rfl ?_
          refine k_if_eq rfl (fun c26 => ?_) (fun c26 => ?_)
          · exact absurd c26 (by decide)
          · refine k_aload_n rfl rfl ?_
            refine k_aload_n rfl rfl ?_
            refine k_getR rfl rfl (sr_o S1) (sr_plan S1) ?_
            refine k_cV1 rfl cw_R_worth wd_507 (sr_o S1) rfl (by decide) (Nat.le_of_ble_eq_true rfl) ?_
            refine c_R_worth (F := F) P1 I1 (sr_a7 S1) (fun l1 k1 a b => pr_pl P1 l1 k1 (by have : l1 < s_lkr s := a; omega) (by have : k1 < s_told s := b; omega)) (fun l1 k1 a b => by have := hFb l1 k1; omega) ?_
            rw [wo_pl]
            obtain ⟨nw, enw⟩ : ∃ x, x = wo s F (s_told (w_pl s F)) := ⟨_, rfl⟩
            rw [← enw]
            have hnw := wo_le I F (s_told s) (Nat.le_refl _)
            have enw2 : nw = wo s F (s_told s) := enw
            refine k_lst4 rfl rfl ?_
            refine k_lload rfl rfl ?_
            refine k_lst6 rfl rfl ?_
            refine k_iconst (v := -1) rfl (by decide) ?_
            refine k_ist8 rfl rfl ?_
            refine k_iconst (v := nI 0) rfl (by decide) ?_
            refine k_ist9 rfl rfl ?_
            have Jb : ∀ (h1 : Hp) (b : Option Nat) (mo : Nat) (z9 z10 z11 : Option Value), hp_fr (inR m) h h1 → PR g h1 m (w_pl s F) → okB s b → bst s F = b → Om g M_R_share (d + 2) Q h1 185 [some (.ref m), some (.int (nI n0)), some (.int (nI 1)), some (.int (nI i)), some (.long (lN nw)), none, some (.long (lN mo)), none, some (.int (sI b)), z9, z10, z11, none] [] := by
              intro h1 b mo z9 z10 z11 x1 P1 hb e
              have S1 := pr_S P1
              simp only [shF] at eF
              rw [e] at eF
              cases b with
              | none =>
                simp only at eF
                refine k_iload rfl rfl ?_
                refine k_iconst (v := -1) rfl (by decide) ?_
                refine k_icmp_eq rfl (fun c188 => ?_) (fun c188 => ?_)
                · refine k_iconst (v := nI 0) rfl (by decide) ?_
                  refine k_ist2 rfl rfl ?_
                  refine k_iload_n rfl rfl ?_
                  refine k_if_eq rfl (fun c198 => ?_) (fun c198 => ?_)
                  · refine k_incN3 rfl rfl ?_
                    refine k_goto rfl ?_
                    refine k_iload_n rfl rfl ?_
                    refine k_iload_n rfl rfl ?_
                    refine k_icmp_ge rfl (fun c22 => ?_) (fun c22 => ?_)
                    · exact Jend F h1 _ _ _ _ _ _ _ _ x1 P1 (fun l k => by have := hFb l k; omega) eF
                    · refine k_iload_n rfl rfl ?_
                      refine k_if_eq rfl (fun c26 => ?_) (fun c26 => ?_)
                      · exact Jend F h1 _ _ _ _ _ _ _ _ x1 P1 (fun l k => by have := hFb l k; omega) eF
                      · exact absurd rfl c26
                  · exact absurd rfl c198
                · exact absurd rfl c188
              | some j =>
                simp only at eF
                obtain ⟨l, k, ej, hl, hk⟩ := hb j rfl
                subst ej
                rw [show (40 * l + k) / 40 = l by omega, show (40 * l + k) % 40 = k by omega] at eF
                refine k_iload rfl rfl ?_
                refine k_iconst (v := -1) rfl (by decide) ?_
                refine k_icmp_eq rfl (fun c188 => ?_) (fun c188 => ?_)
                · exact absurd c188 (nI_m1 (by omega))
                · refine k_iconst (v := nI 1) rfl (by decide) ?_
                  refine k_goto rfl ?_
                  refine k_ist2 rfl rfl ?_
                  refine k_iload_n rfl rfl ?_
                  refine k_if_eq rfl (fun c198 => ?_) (fun c198 => ?_)
                  · exact absurd c198 (by decide)
                  · refine k_aload_n rfl rfl ?_
                    refine k_getR rfl rfl (sr_o S1) (sr_plan S1) ?_
                    refine k_iload rfl rfl ?_
                    refine k_dup2 rfl rfl rfl ?_
                    refine k_iA (x := nI (F l k)) rfl (sr_a7 S1) (j := 40 * l + k) rfl (by omega) (by decide) (pr_pl P1 l k (by omega) (by omega)) ?_
                    refine k_iconst (v := nI 1) rfl (by decide) ?_
                    refine k_iaddN rfl ?_
                    refine k_iS rfl (sr_a7 S1) (j := 40 * l + k) rfl (by omega) (by decide) ?_
                    have P2 := PR_bmp P1 (l := l) (k := k) (by omega) (by omega)
                    have x2 : hp_fr (inR m) h (hp_ui h1 (m + 7) (40 * l + k) (nI (F l k + 1))) := fr_tr x1 (fr_ui ⟨by omega, by omega⟩)
                    generalize (hp_ui h1 (m + 7) (40 * l + k) (nI (F l k + 1))) = h2 at P2 x2 ⊢
                    refine k_incN3 rfl rfl ?_
                    refine k_goto rfl ?_
                    exact ih (i + 1) (bmp F l k) h2 _ _ _ _ _ _ (by omega) x2 P2 (bmp_le hFb) eF
            suffices Hl : ∀ (ql l : Nat) (b : Option Nat) (mo : Nat) (h1 : Hp) (z10 z11 : Option Value), l + ql = s_lkr s → hp_fr (inR m) h h1 → PR g h1 m (w_pl s F) → okB s b → mo < 2 ^ 62 → bst s F = (scL s F ql l b mo).1 → Om g M_R_share (d + 2) Q h1 49 [some (.ref m), some (.int (nI n0)), some (.int (nI 1)), some (.int (nI i)), some (.long (lN nw)), none, some (.long (lN mo)), none, some (.int (sI b)), some (.int (nI l)), z10, z11, none] [] from Hl _ 0 none nw h1 _ _ (Nat.zero_add _) x1 P1 (fun j e => by cases e) (by omega) (by rw [enw2]; rfl)
            intro ql
            induction ql with
            | zero =>
              intro l b mo h1 z10 z11 hl0 x1 P1 hb hmo eS
              have S1 := pr_S P1
              refine k_iload rfl rfl ?_
              refine k_aload_n rfl rfl ?_
              refine k_gI rfl rfl (sr_o S1) (show hp_i _ m 6 = nI (s_lkr s) from pr_lkr (s := w_pl s F) P1) ?_
              refine kn_ge rfl (by omega) (by omega) (fun c55 => ?_) (fun c55 => ?_)
              · exact Jb h1 b mo _ _ _ x1 P1 hb eS
              · exact absurd c55 (by omega)
            | succ ql ihl =>
              intro l b mo h1 z10 z11 hl0 x1 P1 hb hmo eS
              have S1 := pr_S P1
              refine k_iload rfl rfl ?_
              refine k_aload_n rfl rfl ?_
              refine k_gI rfl rfl (sr_o S1) (show hp_i _ m 6 = nI (s_lkr s) from pr_lkr (s := w_pl s F) P1) ?_
              refine kn_ge rfl (by omega) (by omega) (fun c55 => ?_) (fun c55 => ?_)
              · exact absurd c55 (by omega)
              · refine k_iconst (v := nI 0) rfl (by decide) ?_
                refine k_ist10 rfl rfl ?_
                have hl : l < s_lkr s := by omega
                have hgl : gv F l (s_told s) ≤ s_told s * 100 := gv_le _ (fun k _ => by have := hFb l k; omega)
                have hgm : s_told s * 100 ≤ 4000 := by omega
                have hul : us s l ≤ 24 := Nat.le_trans (usN_le s l _) (v_hr I l hl).2
                have hgb : gv F l (s_told s) < 2 ^ 31 := by omega
                simp only [scL] at eS
                by_cases hg : gv F l (s_told s) < us s l
                · rw [if_pos hg] at eS
                  have Jn : ∀ (h2 : Hp) (b2 : Option Nat) (mo2 : Nat) (z10 z11 : Option Value), hp_fr (inR m) h h2 → PR g h2 m (w_pl s F) → okB s b2 → mo2 < 2 ^ 62 → scK s F l (s_told s) 0 b mo = (b2, mo2) → Om g M_R_share (d + 2) Q h2 179 [some (.ref m), some (.int (nI n0)), some (.int (nI 1)), some (.int (nI i)), some (.long (lN nw)), none, some (.long (lN mo2)), none, some (.int (sI b2)), some (.int (nI l)), z10, z11, none] [] := by
                    intro h2 b2 mo2 z10 z11 x2 P2 hb2 hmo2 e2
                    rw [e2] at eS
                    have e2 := eS
                    refine k_incN9 rfl rfl ?_
                    refine k_goto rfl ?_
                    exact ihl (l + 1) b2 mo2 h2 _ _ (by omega) x2 P2 hb2 hmo2 e2
                  suffices Hk : ∀ (qk k : Nat) (b3 : Option Nat) (mo3 : Nat) (h1 : Hp) (z11 : Option Value), k + qk = s_told s → hp_fr (inR m) h h1 → PR g h1 m (w_pl s F) → okB s b3 → mo3 < 2 ^ 62 → scK s F l (s_told s) 0 b mo = scK s F l qk k b3 mo3 → Om g M_R_share (d + 2) Q h1 61 [some (.ref m), some (.int (nI n0)), some (.int (nI 1)), some (.int (nI i)), some (.long (lN nw)), none, some (.long (lN mo3)), none, some (.int (sI b3)), some (.int (nI l)), some (.int (nI k)), z11, none] [] from Hk _ 0 b mo h1 z11 (Nat.zero_add _) x1 P1 hb hmo rfl
                  intro qk
                  induction qk with
                  | zero =>
                    intro k b mo h1 z11 hk x1 P1 hb hmo eK
                    have S1 := pr_S P1
                    refine k_iload rfl rfl ?_
                    refine k_aload_n rfl rfl ?_
                    refine k_gI rfl rfl (sr_o S1) (show hp_i _ m 1 = nI (s_told s) from pr_told (s := w_pl s F) P1) ?_
                    refine kn_ge rfl (by omega) (by omega) (fun c67 => ?_) (fun c67 => ?_)
                    · exact Jn h1 b mo _ _ x1 P1 hb hmo eK
                    · exact absurd c67 (by omega)
                  | succ qk ihk =>
                    intro k b mo h1 z11 hk x1 P1 hb hmo eK
                    have S1 := pr_S P1
                    have I1 : Inv (w_pl s F) := Inv_pl I (fun l1 k1 a b => by have := hFb l1 k1; omega)
                    have hkt : k < s_told s := by omega
                    have hFk := hFb l k
                    simp only [scK] at eK
                    refine k_iload rfl rfl ?_
                    refine k_aload_n rfl rfl ?_
                    refine k_gI rfl rfl (sr_o S1) (show hp_i _ m 1 = nI (s_told s) from pr_told (s := w_pl s F) P1) ?_
                    refine kn_ge rfl (by omega) (by omega) (fun c67 => ?_) (fun c67 => ?_)
                    · exact absurd c67 (by omega)
                    · refine k_aload_n rfl rfl ?_
                      refine k_aload_n rfl rfl ?_
                      refine k_getR rfl rfl (sr_o S1) (sr_plan S1) ?_
                      refine k_iload rfl rfl ?_
                      refine k_cV2 rfl cw_R_given wd_520 (sr_o S1) rfl (by decide) (Nat.le_of_ble_eq_true rfl) ?_
                      refine c_R_given (F := F) P1 I1 (sr_a7 S1) (by omega) (fun k1 hk1 => pr_pl P1 l k1 (by omega) (by have : k1 < s_told s := hk1; omega)) ?_
                      rw [show s_told (w_pl s F) = s_told s from rfl]
                      refine k_aload_n rfl rfl ?_
                      refine k_iload rfl rfl ?_
                      refine k_cV1 rfl cw_R_use wd_524 (sr_o S1) rfl (by decide) (Nat.le_of_ble_eq_true rfl) ?_
                      refine c_R_use P1 I1 hl ?_
                      rw [us_pl]
                      refine kn_ge rfl (by omega) (by omega) (fun c86 => ?_) (fun c86 => ?_)
                      · exact absurd c86 (by omega)
                      · refine k_aload_n rfl rfl ?_
                        refine k_getR rfl rfl (sr_o S1) (sr_plan S1) ?_
                        refine k_bipush (v := nI 40) rfl (by decide) ?_
                        refine k_iload rfl rfl ?_
                        refine k_imul rfl ?_
                        refine k_iload rfl rfl ?_
                        refine k_iadd rfl ?_
                        rw [ix40]
                        refine k_dup2 rfl rfl rfl ?_
                        refine k_iA (x := nI (F l k)) rfl (sr_a7 S1) rfl (by omega) (by decide) (pr_pl P1 l k (by omega) (by omega)) ?_
                        refine k_iconst (v := nI 1) rfl (by decide) ?_
                        refine k_iaddN rfl ?_
                        refine k_iS rfl (sr_a7 S1) rfl (by omega) (by decide) ?_
                        have P2 := PR_bmp P1 (l := l) (k := k) (by omega) (by omega)
                        have x2 : hp_fr (inR m) h (hp_ui h1 (m + 7) (40 * l + k) (nI (F l k + 1))) := fr_tr x1 (fr_ui ⟨by omega, by omega⟩)
                        generalize (hp_ui h1 (m + 7) (40 * l + k) (nI (F l k + 1))) = h2 at P2 x2 ⊢
                        have S2 := pr_S P2
                        have I2 : Inv (w_pl s (bmp F l k)) := Inv_pl I (fun l1 k1 a b => by have := bmp_le hFb (l := l) (k := k) l1 k1; omega)
                        refine k_aload_n rfl rfl ?_
                        refine k_aload_n rfl rfl ?_
                        refine k_getR rfl rfl (sr_o S2) (sr_plan S2) ?_
                        refine k_cV1 rfl cw_R_worth wd_507 (sr_o S2) rfl (by decide) (Nat.le_of_ble_eq_true rfl) ?_
                        refine c_R_worth (F := bmp F l k) P2 I2 (sr_a7 S2) (fun l1 k1 a b => pr_pl P2 l1 k1 (by have : l1 < s_lkr s := a; omega) (by have : k1 < s_told s := b; omega)) (fun l1 k1 a b => by have := bmp_le hFb (l := l) (k := k) l1 k1; omega) ?_
                        rw [wo_pl, show s_told (w_pl s (bmp F l k)) = s_told s from rfl]
                        refine k_lst11 rfl rfl ?_
                        refine k_aload_n rfl rfl ?_
                        refine k_getR rfl rfl (sr_o S2) (sr_plan S2) ?_
                        refine k_bipush (v := nI 40) rfl (by decide) ?_
                        refine k_iload rfl rfl ?_
                        refine k_imul rfl ?_
                        refine k_iload rfl rfl ?_
                        refine k_iadd rfl ?_
                        rw [ix40]
                        refine k_dup2 rfl rfl rfl ?_
                        refine k_iA (x := nI (F l k + 1)) rfl (sr_a7 S2) rfl (by omega) (by decide) ((pr_pl P2 l k (by omega) (by omega)).trans (by show nI (bmp F l k l k) = _; unfold bmp; rw [if_pos ⟨rfl, rfl⟩])) ?_
                        refine k_iconst (v := 1) rfl (by decide) ?_
                        refine k_isub rfl ?_
                        rw [nI_pred]
                        refine k_iS rfl (sr_a7 S2) rfl (by omega) (by decide) ?_
                        have P3 := PR_unb P2 (l := l) (k := k) (by omega) (by omega)
                        have x3 : hp_fr (inR m) h (hp_ui h2 (m + 7) (40 * l + k) (nI (F l k))) := fr_tr x2 (fr_ui ⟨by omega, by omega⟩)
                        generalize (hp_ui h2 (m + 7) (40 * l + k) (nI (F l k))) = h3 at P3 x3 ⊢
                        have hwb := wo_le I (bmp F l k) (s_told s) (Nat.le_refl _)
                        refine k_lload rfl rfl ?_
                        refine k_lload rfl rfl ?_
                        refine klN_le rfl rfl (by omega) (by omega) (fun c137 => ?_) (fun c137 => ?_)
                        · rw [if_neg (by omega), if_neg (by omega)] at eK
                          refine k_iload rfl rfl ?_
                          refine k_ist8 rfl rfl ?_
                          refine k_lload rfl rfl ?_
                          refine k_lload rfl rfl ?_
                          refine klN_le rfl rfl (by omega) (by omega) (fun c160 => ?_) (fun c160 => ?_)
                          · refine k_lload rfl rfl ?_
                            refine k_lst6 rfl rfl ?_
                            refine k_incN10 rfl rfl ?_
                            refine k_goto rfl ?_
                            exact ihk (k + 1) b mo h3 _ (by omega) x3 P3 hb hmo eK
                          · refine k_lload rfl rfl ?_
                            refine k_goto rfl ?_
                            refine k_lst6 rfl rfl ?_
                            refine k_incN10 rfl rfl ?_
                            refine k_goto rfl ?_
                            exact absurd c160 (by omega)
                        · rw [if_pos c137, if_pos c137] at eK
                          refine k_bipush (v := nI 40) rfl (by decide) ?_
                          refine k_iload rfl rfl ?_
                          refine k_imul rfl ?_
                          refine k_iload rfl rfl ?_
                          refine k_iadd rfl ?_
                          rw [ix40]
                          refine k_goto rfl ?_
                          refine k_ist8 rfl rfl ?_
                          refine k_lload rfl rfl ?_
                          refine k_lload rfl rfl ?_
                          refine klN_le rfl rfl (by omega) (by omega) (fun c160 => ?_) (fun c160 => ?_)
                          · refine k_lload rfl rfl ?_
                            refine k_lst6 rfl rfl ?_
                            refine k_incN10 rfl rfl ?_
                            refine k_goto rfl ?_
                            exact absurd c160 (by omega)
                          · refine k_lload rfl rfl ?_
                            refine k_goto rfl ?_
                            refine k_lst6 rfl rfl ?_
                            refine k_incN10 rfl rfl ?_
                            refine k_goto rfl ?_
                            exact ihk (k + 1) (some (40 * l + k)) _ h3 _ (by omega) x3 P3 (fun j e => ⟨l, k, (Option.some.inj e).symm, hl, by omega⟩) (by omega) eK
                · rw [if_neg hg] at eS
                  have I1 : Inv (w_pl s F) := Inv_pl I (fun l1 k1 a b => by have := hFb l1 k1; omega)
                  refine k_iload rfl rfl ?_
                  refine k_aload_n rfl rfl ?_
                  refine k_gI rfl rfl (sr_o S1) (show hp_i _ m 1 = nI (s_told s) from pr_told (s := w_pl s F) P1) ?_
                  refine k_icmp_ge rfl (fun c67 => ?_) (fun c67 => ?_)
                  · refine k_incN9 rfl rfl ?_
                    refine k_goto rfl ?_
                    exact ihl (l + 1) b mo h1 _ _ (by omega) x1 P1 hb hmo eS
                  · refine k_aload_n rfl rfl ?_
                    refine k_aload_n rfl rfl ?_
                    refine k_getR rfl rfl (sr_o S1) (sr_plan S1) ?_
                    refine k_iload rfl rfl ?_
                    refine k_cV2 rfl cw_R_given wd_520 (sr_o S1) rfl (by decide) (Nat.le_of_ble_eq_true rfl) ?_
                    refine c_R_given (F := F) P1 I1 (sr_a7 S1) (by omega) (fun k1 hk1 => pr_pl P1 l k1 (by omega) (by have : k1 < s_told s := hk1; omega)) ?_
                    rw [show s_told (w_pl s F) = s_told s from rfl]
                    refine k_aload_n rfl rfl ?_
                    refine k_iload rfl rfl ?_
                    refine k_cV1 rfl cw_R_use wd_524 (sr_o S1) rfl (by decide) (Nat.le_of_ble_eq_true rfl) ?_
                    refine c_R_use P1 I1 hl ?_
                    rw [us_pl]
                    refine kn_ge rfl (by omega) (by omega) (fun c86 => ?_) (fun c86 => ?_)
                    · refine k_incN9 rfl rfl ?_
                      refine k_goto rfl ?_
                      exact ihl (l + 1) b mo h1 _ _ (by omega) x1 P1 hb hmo eS
                    · exact absurd c86 (by omega)
    · refine k_iconst (v := -1) rfl (by decide) ?_
      refine k_iret rfl rfl (Nat.le_refl _) (Nat.le_refl _) ?_
      rw [if_pos (Or.inr (Int32.not_le.mp c7))] at hQ; exact hQ h fr_rf P
