theorem m1_L : (-1 : Int64) = -1 := rfl
theorem nI_m1 {k : Nat} (h : k < 2 ^ 31) : nI k ≠ -1 := fun e => by
  have h1 := nI_pos h
  rw [e] at h1
  exact h1 (by decide)
def opN (r : Option Nat) (f : Nat → Nat) : Nat := match r with
  | some k => f k
  | none => 0
/-- odds, as the reference has them -/
def odR (s : St) (c p : Int32) : Int64 := cond (isc (nI (s_cells s)) c) (ptI (opN (plS s c) (s_cn s 0)) (alN s (s_told s)) p) (-1)
def m0 (s : St) (k : Nat) : Nat := s_cn s 0 k * msN s (fun l => s_ld s l k) k
def afS (s : St) (c p : Int32) : Int64 := cond (isc (nI (s_cells s)) c) (match s_seen s with
  | some q => ptI (if nI q = c then 1 else 0) 1 p
  | none => ptI (opN (plS s c) (m0 s)) (lfN s (s_told s)) p) (-1)
def smS (s : St) : Bool := (s_seen s).isSome || decide (0 < lfN s (s_told s))
def wsN (s : St) : Nat → Nat
  | 0 => 0
  | k + 1 => wsN s k + wtN s k
theorem wsN_le {s : St} (I : Inv s) : ∀ k, k ≤ s_told s → wsN s k ≤ k * 4000
  | 0, _ => by simp [wsN]
  | k + 1, h => by
    have h1 := wsN_le I k (by omega)
    have h2 := wt_le I (k := k) (by omega)
    simp only [wsN]; omega
def fdS (s : St) (p : Int32) : Int64 := ptI (wo s (s_pl s) (s_told s)) (wsN s (s_told s) * 268738560000) p
def ofS (s : St) (l c : Int32) : Int32 := cond (isc (nI (s_lkr s)) l && isc (nI (s_cells s)) c) (nI (opN (plS s c) (fun k => s_pl s l.toNatClampNeg k))) (-1)
def stS (s : St) : Int32 := if s_bl s = 0 ∨ alN s (s_told s) = 0 then -1 else if s_seen s ≠ none ∨ s_ab s * alN s (s_told s) * 268738560000 ≤ (alN s (s_told s) * 268738560000 - lfN s (s_told s)) * s_bl s then 1 else 0
def cvS (s : St) (c : Int32) : Bool := isc (nI (s_cells s)) c && (plS s c).isSome
def rk (s : St) (k : Nat) : Nat := match s_seen s with
  | some q => if s_num s k = q then 1 else 0
  | none => m0 s k
theorem m0_le {s : St} (I : Inv s) {k : Nat} (h : k < s_told s) : m0 s k ≤ 1000 * 268738560000 := lf1_le I h
theorem rk_le {s : St} (I : Inv s) {k : Nat} (h : k < s_told s) : rk s k ≤ 1000 * 268738560000 := by
  have := m0_le I h
  unfold rk
  split
  · split <;> omega
  · exact this
def bfO (s : St) (k : Nat) : Nat → Nat
  | 0 => 0
  | i + 1 => bfO s k i + (if rk s k < rk s i ∨ (rk s i = rk s k ∧ i < k) then 1 else 0)
theorem bfO_le (s : St) (k : Nat) : ∀ i, bfO s k i ≤ i
  | 0 => Nat.le_refl _
  | i + 1 => by
    have := bfO_le s k i
    simp only [bfO]
    split <;> omega
def orF (s : St) (n : Int32) : Nat → Nat → Int32
  | 0, _ => -1
  | q + 1, i => if nI (bfO s i (s_told s)) = n then nI (s_num s i) else orF s n q (i + 1)
def orS (s : St) (n : Int32) : Int32 := cond (isc (nI (s_told s)) n) (orF s n (s_told s) 0) (-1)
theorem isc_of {n : Nat} {c : Int32} (hn : n < 2 ^ 31) (h : isc (nI n) c = true) : ∃ k, k < n ∧ c = nI k ∧ c.toNatClampNeg = k := by
  unfold isc at h
  simp only [Bool.and_eq_true, decide_eq_true_eq] at h
  obtain ⟨k, h1, h2⟩ := nI_of (x := c) (Int32.not_lt.mpr h.1)
  subst h2
  exact ⟨k, (nI_ltI h1 hn).mp h.2, rfl, nI_clamp h1⟩
theorem isc_t {n c : Int32} (h1 : ¬ c < 0) (h2 : c < n) : isc n c = true := by simp [isc, Int32.not_lt.mp h1, h2]
theorem isc_f1 {n c : Int32} (h1 : c < 0) : isc n c = false := by simp [isc, Int32.not_le.mpr h1]
theorem isc_f2 {n c : Int32} (h1 : ¬ c < n) : isc n c = false := by simp [isc, h1]
theorem c_R_odds {g : Gx} {h : Hp} {m d : Nat} {s : St} {Q : Option Value → Hp → Prop} (P : PR g h m s) (I : Inv s) (c p : Int32) (hQ : Q (some (.long (odR s c p))) h) : Ct g M_R_odds (d + 2) 0 0 [.ref m, .int c, .int p] h Q := by
  have S := pr_S P
  have bT := v_told I
  have bL := v_lkr I
  refine ct_of ok_R_odds (by decide) (Nat.le_of_ble_eq_true rfl) [some (.ref m), some (.int c), some (.int p), none] rfl rfl ?_
  have hal := alN_le I (s_told s) (Nat.le_refl _)
  unfold odR at hQ
  cases hp : plS s c with
  | none =>
    rw [hp] at hQ
    refine k_aload_n rfl rfl ?_
    refine k_iload_n rfl rfl ?_
    refine k_cV1 rfl cw_R_isCell wd_450 (sr_o S) rfl (by decide) (Nat.le_of_ble_eq_true rfl) ?_
    refine c_R_isCell P I c ?_
    refine kb_ne rfl (fun c5 => ?_) (fun c5 => ?_)
    · refine k_aload_n rfl rfl ?_
      refine k_iload_n rfl rfl ?_
      refine k_cV1 rfl cw_R_place wd_455 (sr_o S) rfl (by decide) (Nat.le_of_ble_eq_true rfl) ?_
      refine c_R_place P I c ?_
      rw [hp]
      refine k_ist3 rfl rfl ?_
      refine k_iload_n rfl rfl ?_
      refine k_iconst (v := -1) rfl (by decide) ?_
      refine k_icmp_ne rfl (fun c20 => ?_) (fun c20 => ?_)
      · exact absurd rfl c20
      · refine k_lconst (v := lN 0) rfl (by decide) ?_
        refine k_goto rfl ?_
        refine k_aload_n rfl rfl ?_
        refine k_cV0 rfl cw_R_all wd_553 (sr_o S) rfl (by decide) (Nat.le_of_ble_eq_true rfl) ?_
        refine c_R_all P I ?_
        refine k_iload_n rfl rfl ?_
        refine k_cS3 rfl cw_R_part wd_557 (by decide) (Nat.le_of_ble_eq_true rfl) ?_
        refine c_R_part (by decide) (by omega) ?_
        refine k_lret rfl rfl (Nat.le_refl _) (Nat.le_refl _) ?_
        rw [c5] at hQ; exact hQ
    · refine k_ldc2 rfl wd_552 ?_
      refine k_lret rfl rfl (Nat.le_refl _) (Nat.le_refl _) ?_
      rw [c5] at hQ; exact hQ
  | some k =>
    have hk := plS_lt hp
    have hc := v_cn I 0 k (by decide) hk
    rw [hp] at hQ
    refine k_aload_n rfl rfl ?_
    refine k_iload_n rfl rfl ?_
    refine k_cV1 rfl cw_R_isCell wd_450 (sr_o S) rfl (by decide) (Nat.le_of_ble_eq_true rfl) ?_
    refine c_R_isCell P I c ?_
    refine kb_ne rfl (fun c5 => ?_) (fun c5 => ?_)
    · refine k_aload_n rfl rfl ?_
      refine k_iload_n rfl rfl ?_
      refine k_cV1 rfl cw_R_place wd_455 (sr_o S) rfl (by decide) (Nat.le_of_ble_eq_true rfl) ?_
      refine c_R_place P I c ?_
      rw [hp]
      refine k_ist3 rfl rfl ?_
      refine k_iload_n rfl rfl ?_
      refine k_iconst (v := -1) rfl (by decide) ?_
      refine k_icmp_ne rfl (fun c20 => ?_) (fun c20 => ?_)
      · refine k_aload_n rfl rfl ?_
        refine k_getR rfl rfl (sr_o S) (sr_count S) ?_
        refine k_iload_n rfl rfl ?_
        refine k_iA rfl (sr_a3 S) (c0_ix k) (by omega) (by decide) (pr_cn P 0 k (by decide) hk) ?_
        refine k_i2lN rfl (by omega) ?_
        refine k_aload_n rfl rfl ?_
        refine k_cV0 rfl cw_R_all wd_553 (sr_o S) rfl (by decide) (Nat.le_of_ble_eq_true rfl) ?_
        refine c_R_all P I ?_
        refine k_iload_n rfl rfl ?_
        refine k_cS3 rfl cw_R_part wd_557 (by decide) (Nat.le_of_ble_eq_true rfl) ?_
        refine c_R_part (by omega) (by omega) ?_
        refine k_lret rfl rfl (Nat.le_refl _) (Nat.le_refl _) ?_
        rw [c5] at hQ; exact hQ
      · exact absurd c20 (nI_m1 (by omega))
    · refine k_ldc2 rfl wd_552 ?_
      refine k_lret rfl rfl (Nat.le_refl _) (Nat.le_refl _) ?_
      rw [c5] at hQ; exact hQ
theorem c_R_after {g : Gx} {h : Hp} {m d : Nat} {s : St} {Q : Option Value → Hp → Prop} (P : PR g h m s) (I : Inv s) (c p : Int32) (hQ : Q (some (.long (afS s c p))) h) : Ct g M_R_after (d + 2) 0 0 [.ref m, .int c, .int p] h Q := by
  have S := pr_S P
  have bT := v_told I
  have bL := v_lkr I
  refine ct_of ok_R_after (by decide) (Nat.le_of_ble_eq_true rfl) [some (.ref m), some (.int c), some (.int p), none] rfl rfl ?_
  have bK := v_lks I
  have hld : ∀ l k, l < s_lkr s → k < s_told s → s_ld s l k ≤ 20000 := fun l k h1 h2 => by have := v_ld I l k (by omega) h2; omega
  have hal := lfN_le I (s_told s) (Nat.le_refl _)
  have hcb := v_cells I
  unfold afS at hQ
  cases hs : s_seen s with
  | some q =>
    have hq := v_seen I q hs
    rw [hs] at hQ
    simp only at hQ
    refine k_aload_n rfl rfl ?_
    refine k_iload_n rfl rfl ?_
    refine k_cV1 rfl cw_R_isCell wd_450 (sr_o S) rfl (by decide) (Nat.le_of_ble_eq_true rfl) ?_
    refine c_R_isCell P I c ?_
    refine kb_ne rfl (fun c5 => ?_) (fun c5 => ?_)
    · refine k_aload_n rfl rfl ?_
      refine k_gI (x := nI q) rfl rfl (sr_o S) ((pr_seen P).trans (by rw [hs]; rfl)) ?_
      refine k_iconst (v := -1) rfl (by decide) ?_
      refine k_icmp_eq rfl (fun c17 => ?_) (fun c17 => ?_)
      · exact absurd c17 (nI_m1 (by omega))
      · refine k_aload_n rfl rfl ?_
        refine k_gI (x := nI q) rfl rfl (sr_o S) ((pr_seen P).trans (by rw [hs]; rfl)) ?_
        refine k_iload_n rfl rfl ?_
        refine k_icmp_ne rfl (fun c25 => ?_) (fun c25 => ?_)
        · refine k_lconst (v := lN 0) rfl (by decide) ?_
          refine k_lconst (v := lN 1) rfl (by decide) ?_
          refine k_iload_n rfl rfl ?_
          refine k_cS3 rfl cw_R_part wd_557 (by decide) (Nat.le_of_ble_eq_true rfl) ?_
          refine c_R_part (by decide) (by decide) ?_
          refine k_lret rfl rfl (Nat.le_refl _) (Nat.le_refl _) ?_
          rw [c5, if_neg c25] at hQ; exact hQ
        · refine k_lconst (v := lN 1) rfl (by decide) ?_
          refine k_goto rfl ?_
          refine k_lconst (v := lN 1) rfl (by decide) ?_
          refine k_iload_n rfl rfl ?_
          refine k_cS3 rfl cw_R_part wd_557 (by decide) (Nat.le_of_ble_eq_true rfl) ?_
          refine c_R_part (by decide) (by decide) ?_
          refine k_lret rfl rfl (Nat.le_refl _) (Nat.le_refl _) ?_
          rw [c5, if_pos c25] at hQ; exact hQ
    · refine k_ldc2 rfl wd_552 ?_
      refine k_lret rfl rfl (Nat.le_refl _) (Nat.le_refl _) ?_
      rw [c5] at hQ; exact hQ
  | none =>
    rw [hs] at hQ
    cases hp : plS s c with
    | none =>
      rw [hp] at hQ
      refine k_aload_n rfl rfl ?_
      refine k_iload_n rfl rfl ?_
      refine k_cV1 rfl cw_R_isCell wd_450 (sr_o S) rfl (by decide) (Nat.le_of_ble_eq_true rfl) ?_
      refine c_R_isCell P I c ?_
      refine kb_ne rfl (fun c5 => ?_) (fun c5 => ?_)
      · refine k_aload_n rfl rfl ?_
        refine k_gI (x := -1) rfl rfl (sr_o S) ((pr_seen P).trans (by rw [hs]; rfl)) ?_
        refine k_iconst (v := -1) rfl (by decide) ?_
        refine k_icmp_eq rfl (fun c17 => ?_) (fun c17 => ?_)
        · refine k_aload_n rfl rfl ?_
          refine k_iload_n rfl rfl ?_
          refine k_cV1 rfl cw_R_place wd_455 (sr_o S) rfl (by decide) (Nat.le_of_ble_eq_true rfl) ?_
          refine c_R_place P I c ?_
          rw [hp]
          refine k_ist3 rfl rfl ?_
          refine k_iload_n rfl rfl ?_
          refine k_iconst (v := -1) rfl (by decide) ?_
          refine k_icmp_ne rfl (fun c47 => ?_) (fun c47 => ?_)
          · exact absurd rfl c47
          · refine k_lconst (v := lN 0) rfl (by decide) ?_
            refine k_goto rfl ?_
            refine k_aload_n rfl rfl ?_
            refine k_cV0 rfl cw_R_left wd_567 (sr_o S) rfl (by decide) (Nat.le_of_ble_eq_true rfl) ?_
            refine c_R_left P I ?_
            refine k_iload_n rfl rfl ?_
            refine k_cS3 rfl cw_R_part wd_557 (by decide) (Nat.le_of_ble_eq_true rfl) ?_
            refine c_R_part (by decide) (by omega) ?_
            refine k_lret rfl rfl (Nat.le_refl _) (Nat.le_refl _) ?_
            rw [c5] at hQ; exact hQ
        · exact absurd rfl c17
      · refine k_ldc2 rfl wd_552 ?_
        refine k_lret rfl rfl (Nat.le_refl _) (Nat.le_refl _) ?_
        rw [c5] at hQ; exact hQ
    | some k =>
      have hk := plS_lt hp
      have hc := v_cn I 0 k (by decide) hk
      have hm0 := m0_le I hk
      rw [hp] at hQ
      refine k_aload_n rfl rfl ?_
      refine k_iload_n rfl rfl ?_
      refine k_cV1 rfl cw_R_isCell wd_450 (sr_o S) rfl (by decide) (Nat.le_of_ble_eq_true rfl) ?_
      refine c_R_isCell P I c ?_
      refine kb_ne rfl (fun c5 => ?_) (fun c5 => ?_)
      · refine k_aload_n rfl rfl ?_
        refine k_gI (x := -1) rfl rfl (sr_o S) ((pr_seen P).trans (by rw [hs]; rfl)) ?_
        refine k_iconst (v := -1) rfl (by decide) ?_
        refine k_icmp_eq rfl (fun c17 => ?_) (fun c17 => ?_)
        · refine k_aload_n rfl rfl ?_
          refine k_iload_n rfl rfl ?_
          refine k_cV1 rfl cw_R_place wd_455 (sr_o S) rfl (by decide) (Nat.le_of_ble_eq_true rfl) ?_
          refine c_R_place P I c ?_
          rw [hp]
          refine k_ist3 rfl rfl ?_
          refine k_iload_n rfl rfl ?_
          refine k_iconst (v := -1) rfl (by decide) ?_
          refine k_icmp_ne rfl (fun c47 => ?_) (fun c47 => ?_)
          · refine k_aload_n rfl rfl ?_
            refine k_getR rfl rfl (sr_o S) (sr_count S) ?_
            refine k_iload_n rfl rfl ?_
            refine k_iA rfl (sr_a3 S) (c0_ix k) (by omega) (by decide) (pr_cn P 0 k (by decide) hk) ?_
            refine k_i2lN rfl (by omega) ?_
            refine k_aload_n rfl rfl ?_
            refine k_aload_n rfl rfl ?_
            refine k_getR rfl rfl (sr_o S) (sr_looked S) ?_
            refine k_iload_n rfl rfl ?_
            refine k_cV2 rfl cw_R_missed wd_516 (sr_o S) rfl (by decide) (Nat.le_of_ble_eq_true rfl) ?_
            refine c_R_missed (f := fun l => s_ld s l k) P I (sr_a9 S) hk (fun l hl => pr_ld P l k (by omega) hk) (fun l hl => hld l k hl hk) ?_
            refine k_lmulN rfl ?_
            refine k_aload_n rfl rfl ?_
            refine k_cV0 rfl cw_R_left wd_567 (sr_o S) rfl (by decide) (Nat.le_of_ble_eq_true rfl) ?_
            refine c_R_left P I ?_
            refine k_iload_n rfl rfl ?_
            refine k_cS3 rfl cw_R_part wd_557 (by decide) (Nat.le_of_ble_eq_true rfl) ?_
            refine c_R_part (show m0 s k < 2 ^ 63 by omega) (by omega) ?_
            refine k_lret rfl rfl (Nat.le_refl _) (Nat.le_refl _) ?_
            rw [c5] at hQ; exact hQ
          · exact absurd c47 (nI_m1 (by omega))
        · exact absurd rfl c17
      · refine k_ldc2 rfl wd_552 ?_
        refine k_lret rfl rfl (Nat.le_refl _) (Nat.le_refl _) ?_
        rw [c5] at hQ; exact hQ
theorem c_R_sums {g : Gx} {h : Hp} {m d : Nat} {s : St} {Q : Option Value → Hp → Prop} (P : PR g h m s) (I : Inv s) (hQ : Q (some (.int (bI (smS s)))) h) : Ct g M_R_sums (d + 2) 0 0 [.ref m] h Q := by
  have S := pr_S P
  have bT := v_told I
  have bL := v_lkr I
  refine ct_of ok_R_sums (by decide) (Nat.le_of_ble_eq_true rfl) [some (.ref m)] rfl rfl ?_
  have hal := lfN_le I (s_told s) (Nat.le_refl _)
  have hcb := v_cells I
  unfold smS at hQ
  cases hs : s_seen s with
  | some q =>
    have hq := v_seen I q hs
    rw [hs] at hQ
    refine k_aload_n rfl rfl ?_
    refine k_gI (x := nI q) rfl rfl (sr_o S) ((pr_seen P).trans (by rw [hs]; rfl)) ?_
    refine k_iconst (v := -1) rfl (by decide) ?_
    refine k_icmp_ne rfl (fun c5 => ?_) (fun c5 => ?_)
    · refine k_iconst (v := nI 1) rfl (by decide) ?_
      refine k_goto rfl ?_
      refine k_zret rfl rfl (by decide) (Nat.le_refl _) (Nat.le_refl _) ?_
      exact hQ
    · exact absurd c5 (nI_m1 (by omega))
  | none =>
    rw [hs] at hQ
    refine k_aload_n rfl rfl ?_
    refine k_gI (x := -1) rfl rfl (sr_o S) ((pr_seen P).trans (by rw [hs]; rfl)) ?_
    refine k_iconst (v := -1) rfl (by decide) ?_
    refine k_icmp_ne rfl (fun c5 => ?_) (fun c5 => ?_)
    · exact absurd rfl c5
    · refine k_aload_n rfl rfl ?_
      refine k_cV0 rfl cw_R_left wd_567 (sr_o S) rfl (by decide) (Nat.le_of_ble_eq_true rfl) ?_
      refine c_R_left P I ?_
      refine k_lconst (v := lN 0) rfl (by decide) ?_
      refine klN_le rfl rfl (by omega) (by omega) (fun c13 => ?_) (fun c13 => ?_)
      · refine k_iconst (v := nI 0) rfl (by decide) ?_
        refine k_zret rfl rfl (by decide) (Nat.le_refl _) (Nat.le_refl _) ?_
        rw [show decide (0 < lfN s (s_told s)) = false from decide_eq_false (by omega)] at hQ; exact hQ
      · refine k_iconst (v := nI 1) rfl (by decide) ?_
        refine k_goto rfl ?_
        refine k_zret rfl rfl (by decide) (Nat.le_refl _) (Nat.le_refl _) ?_
        rw [show decide (0 < lfN s (s_told s)) = true from decide_eq_true (by omega)] at hQ; exact hQ
theorem c_R_found {g : Gx} {h : Hp} {m d : Nat} {s : St} {Q : Option Value → Hp → Prop} (P : PR g h m s) (I : Inv s) (p : Int32) (hQ : Q (some (.long (fdS s p))) h) : Ct g M_R_found (d + 2) 0 0 [.ref m, .int p] h Q := by
  have S := pr_S P
  have bT := v_told I
  have bL := v_lkr I
  refine ct_of ok_R_found (by decide) (Nat.le_of_ble_eq_true rfl) [some (.ref m), some (.int p), none, none, none] rfl rfl ?_
  have hws := wsN_le I (s_told s) (Nat.le_refl _)
  have hwo := wo_le I (s_pl s) (s_told s) (Nat.le_refl _)
  refine k_lconst (v := lN 0) rfl (by decide) ?_
  refine k_lst2 rfl rfl ?_
  refine k_iconst (v := nI 0) rfl (by decide) ?_
  refine k_ist4 rfl rfl ?_
  suffices H : ∀ (q i : Nat), i + q = s_told s → Om g M_R_found (d + 2) Q h 5 [some (.ref m), some (.int p), some (.long (lN (wsN s i))), none, some (.int (nI i))] [] from H _ 0 (Nat.zero_add _)
  intro q
  induction q with
  | zero =>
    intro i hi
    have ei : i = s_told s := by omega
    subst ei
    refine k_iload rfl rfl ?_
    refine k_aload_n rfl rfl ?_
    refine k_gI rfl rfl (sr_o S) (pr_told P) ?_
    refine kn_ge rfl (by omega) (by omega) (fun c11 => ?_) (fun c11 => ?_)
    · refine k_aload_n rfl rfl ?_
      refine k_aload_n rfl rfl ?_
      refine k_getR rfl rfl (sr_o S) (sr_plan S) ?_
      refine k_cV1 rfl cw_R_worth wd_507 (sr_o S) rfl (by decide) (Nat.le_of_ble_eq_true rfl) ?_
      refine c_R_worth (F := s_pl s) P I (sr_a7 S) (fun l k h1 h2 => pr_pl P l k (by omega) (by omega)) (fun l k h1 h2 => by have := v_pl I l k (by omega) (by omega); omega) ?_
      refine k_lload_n rfl rfl ?_
      refine k_ldc2 rfl wd_515 ?_
      rw [lN_W]
      refine k_lmulN rfl ?_
      refine k_iload_n rfl rfl ?_
      refine k_cS3 rfl cw_R_part wd_557 (by decide) (Nat.le_of_ble_eq_true rfl) ?_
      refine c_R_part (by omega) (by omega) ?_
      refine k_lret rfl rfl (Nat.le_refl _) (Nat.le_refl _) ?_
      exact hQ
    · exact absurd c11 (by omega)
  | succ q ih =>
    intro i hi
    have hk : i < s_told s := by omega
    refine k_iload rfl rfl ?_
    refine k_aload_n rfl rfl ?_
    refine k_gI rfl rfl (sr_o S) (pr_told P) ?_
    refine kn_ge rfl (by omega) (by omega) (fun c11 => ?_) (fun c11 => ?_)
    · exact absurd c11 (by omega)
    · refine k_lload_n rfl rfl ?_
      refine k_aload_n rfl rfl ?_
      refine k_iload rfl rfl ?_
      refine k_cV1 rfl cw_R_weight wd_511 (sr_o S) rfl (by decide) (Nat.le_of_ble_eq_true rfl) ?_
      refine c_R_weight P I hk ?_
      refine k_i2lN rfl (by have := wt_le I hk; omega) ?_
      refine k_laddN rfl ?_
      refine k_lst2 rfl rfl ?_
      refine k_incN4 rfl rfl ?_
      refine k_goto rfl ?_
      exact ih (i + 1) (by omega)
theorem c_R_of {g : Gx} {h : Hp} {m d : Nat} {s : St} {Q : Option Value → Hp → Prop} (P : PR g h m s) (I : Inv s) (l c : Int32) (hQ : Q (some (.int (ofS s l c))) h) : Ct g M_R_of (d + 1) 0 0 [.ref m, .int l, .int c] h Q := by
  have S := pr_S P
  have bT := v_told I
  have bL := v_lkr I
  refine ct_of ok_R_of (by decide) (Nat.le_of_ble_eq_true rfl) [some (.ref m), some (.int l), some (.int c)] rfl rfl ?_
  unfold ofS at hQ
  cases hp : plS s c with
  | none =>
    rw [hp] at hQ
    refine k_aload_n rfl rfl ?_
    refine k_iload_n rfl rfl ?_
    refine k_cV1 rfl cw_R_isLooker wd_484 (sr_o S) rfl (by decide) (Nat.le_of_ble_eq_true rfl) ?_
    refine c_R_isLooker P I l ?_
    refine kb_eq rfl (fun c5 => ?_) (fun c5 => ?_)
    · refine k_iconst (v := -1) rfl (by decide) ?_
      refine k_goto rfl ?_
      refine k_iret rfl rfl (Nat.le_refl _) (Nat.le_refl _) ?_
      rw [c5] at hQ; exact hQ
    · refine k_aload_n rfl rfl ?_
      refine k_iload_n rfl rfl ?_
      refine k_cV1 rfl cw_R_isCell wd_450 (sr_o S) rfl (by decide) (Nat.le_of_ble_eq_true rfl) ?_
      refine c_R_isCell P I c ?_
      refine kb_ne rfl (fun c13 => ?_) (fun c13 => ?_)
      · refine k_aload_n rfl rfl ?_
        refine k_iload_n rfl rfl ?_
        refine k_cV1 rfl cw_R_place wd_455 (sr_o S) rfl (by decide) (Nat.le_of_ble_eq_true rfl) ?_
        refine c_R_place P I c ?_
        rw [hp]
        refine k_iconst (v := -1) rfl (by decide) ?_
        refine k_icmp_ne rfl (fun c26 => ?_) (fun c26 => ?_)
        · exact absurd rfl c26
        · refine k_iconst (v := nI 0) rfl (by decide) ?_
          refine k_goto rfl ?_
          refine k_iret rfl rfl (Nat.le_refl _) (Nat.le_refl _) ?_
          rw [c5, c13] at hQ; exact hQ
      · refine k_iconst (v := -1) rfl (by decide) ?_
        refine k_goto rfl ?_
        refine k_iret rfl rfl (Nat.le_refl _) (Nat.le_refl _) ?_
        rw [c5, c13] at hQ; exact hQ
  | some k =>
    have hk := plS_lt hp
    rw [hp] at hQ
    refine k_aload_n rfl rfl ?_
    refine k_iload_n rfl rfl ?_
    refine k_cV1 rfl cw_R_isLooker wd_484 (sr_o S) rfl (by decide) (Nat.le_of_ble_eq_true rfl) ?_
    refine c_R_isLooker P I l ?_
    refine kb_eq rfl (fun c5 => ?_) (fun c5 => ?_)
    · refine k_iconst (v := -1) rfl (by decide) ?_
      refine k_goto rfl ?_
      refine k_iret rfl rfl (Nat.le_refl _) (Nat.le_refl _) ?_
      rw [c5] at hQ; exact hQ
    · obtain ⟨l0, hl0, el, ecl⟩ := isc_of (by omega) c5
      refine k_aload_n rfl rfl ?_
      refine k_iload_n rfl rfl ?_
      refine k_cV1 rfl cw_R_isCell wd_450 (sr_o S) rfl (by decide) (Nat.le_of_ble_eq_true rfl) ?_
      refine c_R_isCell P I c ?_
      refine kb_ne rfl (fun c13 => ?_) (fun c13 => ?_)
      · refine k_aload_n rfl rfl ?_
        refine k_iload_n rfl rfl ?_
        refine k_cV1 rfl cw_R_place wd_455 (sr_o S) rfl (by decide) (Nat.le_of_ble_eq_true rfl) ?_
        refine c_R_place P I c ?_
        rw [hp]
        refine k_iconst (v := -1) rfl (by decide) ?_
        refine k_icmp_ne rfl (fun c26 => ?_) (fun c26 => ?_)
        · refine k_aload_n rfl rfl ?_
          refine k_getR rfl rfl (sr_o S) (sr_plan S) ?_
          refine k_bipush (v := nI 40) rfl (by decide) ?_
          refine k_iload_n rfl rfl ?_
          refine k_imul rfl ?_
          refine k_aload_n rfl rfl ?_
          refine k_iload_n rfl rfl ?_
          refine k_cV1 rfl cw_R_place wd_455 (sr_o S) rfl (by decide) (Nat.le_of_ble_eq_true rfl) ?_
          refine c_R_place P I c ?_
          rw [hp]
          refine k_iadd rfl ?_
          refine k_iA rfl (sr_a7 S) (j := 40 * l0 + k) (by rw [el]; exact ix40 l0 k) (by omega) (by decide) (pr_pl P l0 k (by omega) (by omega)) ?_
          refine k_iret rfl rfl (Nat.le_refl _) (Nat.le_refl _) ?_
          rw [c5, c13, ecl] at hQ; exact hQ
        · exact absurd c26 (nI_m1 (by omega))
      · refine k_iconst (v := -1) rfl (by decide) ?_
        refine k_goto rfl ?_
        refine k_iret rfl rfl (Nat.le_refl _) (Nat.le_refl _) ?_
        rw [c5, c13] at hQ; exact hQ
theorem c_R_covers {g : Gx} {h : Hp} {m d : Nat} {s : St} {Q : Option Value → Hp → Prop} (P : PR g h m s) (I : Inv s) (c : Int32) (hQ : Q (some (.int (bI (cvS s c)))) h) : Ct g M_R_covers (d + 1) 0 0 [.ref m, .int c] h Q := by
  have S := pr_S P
  have bT := v_told I
  have bL := v_lkr I
  refine ct_of ok_R_covers (by decide) (Nat.le_of_ble_eq_true rfl) [some (.ref m), some (.int c)] rfl rfl ?_
  unfold cvS at hQ
  cases hp : plS s c with
  | none =>
    rw [hp] at hQ
    refine k_aload_n rfl rfl ?_
    refine k_iload_n rfl rfl ?_
    refine k_cV1 rfl cw_R_isCell wd_450 (sr_o S) rfl (by decide) (Nat.le_of_ble_eq_true rfl) ?_
    refine c_R_isCell P I c ?_
    refine kb_eq rfl (fun c5 => ?_) (fun c5 => ?_)
    · refine k_iconst (v := nI 0) rfl (by decide) ?_
      refine k_zret rfl rfl (by decide) (Nat.le_refl _) (Nat.le_refl _) ?_
      rw [c5] at hQ; exact hQ
    · refine k_aload_n rfl rfl ?_
      refine k_iload_n rfl rfl ?_
      refine k_cV1 rfl cw_R_place wd_455 (sr_o S) rfl (by decide) (Nat.le_of_ble_eq_true rfl) ?_
      refine c_R_place P I c ?_
      rw [hp]
      refine k_iconst (v := -1) rfl (by decide) ?_
      refine k_icmp_eq rfl (fun c14 => ?_) (fun c14 => ?_)
      · refine k_iconst (v := nI 0) rfl (by decide) ?_
        refine k_zret rfl rfl (by decide) (Nat.le_refl _) (Nat.le_refl _) ?_
        rw [c5] at hQ; exact hQ
      · exact absurd rfl c14
  | some k =>
    have hk := plS_lt hp
    rw [hp] at hQ
    refine k_aload_n rfl rfl ?_
    refine k_iload_n rfl rfl ?_
    refine k_cV1 rfl cw_R_isCell wd_450 (sr_o S) rfl (by decide) (Nat.le_of_ble_eq_true rfl) ?_
    refine c_R_isCell P I c ?_
    refine kb_eq rfl (fun c5 => ?_) (fun c5 => ?_)
    · refine k_iconst (v := nI 0) rfl (by decide) ?_
      refine k_zret rfl rfl (by decide) (Nat.le_refl _) (Nat.le_refl _) ?_
      rw [c5] at hQ; exact hQ
    · refine k_aload_n rfl rfl ?_
      refine k_iload_n rfl rfl ?_
      refine k_cV1 rfl cw_R_place wd_455 (sr_o S) rfl (by decide) (Nat.le_of_ble_eq_true rfl) ?_
      refine c_R_place P I c ?_
      rw [hp]
      refine k_iconst (v := -1) rfl (by decide) ?_
      refine k_icmp_eq rfl (fun c14 => ?_) (fun c14 => ?_)
      · exact absurd c14 (nI_m1 (by omega))
      · refine k_iconst (v := nI 1) rfl (by decide) ?_
        refine k_goto rfl ?_
        refine k_zret rfl rfl (by decide) (Nat.le_refl _) (Nat.le_refl _) ?_
        rw [c5] at hQ; exact hQ
theorem lf_al (s : St) : ∀ k, lfN s k ≤ alN s k * 268738560000
  | 0 => by simp [lfN, alN]
  | k + 1 => by
    have h1 := lf_al s k
    have h2 : s_cn s 0 k * msN s (fun l => s_ld s l k) k ≤ s_cn s 0 k * 268738560000 := Nat.mul_le_mul_left _ (msN_le _ _ _)
    simp only [lfN, alN]; rw [Nat.add_mul]; omega
theorem c_R_stops {g : Gx} {h : Hp} {m d : Nat} {s : St} {Q : Option Value → Hp → Prop} (P : PR g h m s) (I : Inv s) (hQ : Q (some (.int (stS s))) h) : Ct g M_R_stops (d + 2) 0 0 [.ref m] h Q := by
  have S := pr_S P
  have bT := v_told I
  have bL := v_lkr I
  refine ct_of ok_R_stops (by decide) (Nat.le_of_ble_eq_true rfl) [some (.ref m)] rfl rfl ?_
  have hal := alN_le I (s_told s) (Nat.le_refl _)
  have hlf := lfN_le I (s_told s) (Nat.le_refl _)
  have hab := v_ab I
  have hbl := v_bl I
  have hcb := v_cells I
  have hll : lfN s (s_told s) ≤ alN s (s_told s) * 268738560000 := lf_al s (s_told s)
  have b1 : (alN s (s_told s) * 268738560000 - lfN s (s_told s)) * s_bl s ≤ 10749542400000000 * 100 := Nat.mul_le_mul (show alN s (s_told s) * 268738560000 - lfN s (s_told s) ≤ 10749542400000000 by omega) hbl
  have b2 : s_ab s * alN s (s_told s) ≤ 100 * 40000 := Nat.mul_le_mul (show s_ab s ≤ 100 by omega) (show alN s (s_told s) ≤ 40000 by omega)
  unfold stS at hQ
  refine k_aload_n rfl rfl ?_
  refine k_gL rfl rfl (sr_o S) (pr_bl P) ?_
  refine k_lconst (v := lN 0) rfl (by decide) ?_
  refine klN_eq rfl rfl (by omega) (by omega) (fun c5 => ?_) (fun c5 => ?_)
  · refine k_iconst (v := -1) rfl (by decide) ?_
    refine k_iret rfl rfl (Nat.le_refl _) (Nat.le_refl _) ?_
    rw [if_pos (Or.inl c5)] at hQ; exact hQ
  · refine k_aload_n rfl rfl ?_
    refine k_cV0 rfl cw_R_all wd_553 (sr_o S) rfl (by decide) (Nat.le_of_ble_eq_true rfl) ?_
    refine c_R_all P I ?_
    refine k_lconst (v := lN 0) rfl (by decide) ?_
    refine klN_ne rfl rfl (by omega) (by omega) (fun c14 => ?_) (fun c14 => ?_)
    · refine k_aload_n rfl rfl ?_
      refine k_gI rfl rfl (sr_o S) (pr_seen P) ?_
      refine k_iconst (v := -1) rfl (by decide) ?_
      refine k_icmp_ne rfl (fun c25 => ?_) (fun c25 => ?_)
      · have hse : s_seen s ≠ none := fun z => c25 (by rw [z]; rfl)
        refine k_iconst (v := nI 1) rfl (by decide) ?_
        refine k_goto rfl ?_
        refine k_iret rfl rfl (Nat.le_refl _) (Nat.le_refl _) ?_
        rw [if_neg (by omega), if_pos (Or.inl hse)] at hQ; exact hQ
      · have hse : ¬ s_seen s ≠ none := by
          cases hs : s_seen s with
          | none => simp
          | some q => rw [hs] at c25; exact absurd c25 (nI_m1 (by have := v_seen I q hs; omega))
        refine k_aload_n rfl rfl ?_
        refine k_cV0 rfl cw_R_all wd_553 (sr_o S) rfl (by decide) (Nat.le_of_ble_eq_true rfl) ?_
        refine c_R_all P I ?_
        refine k_ldc2 rfl wd_515 ?_
        rw [lN_W]
        refine k_lmulN rfl ?_
        refine k_aload_n rfl rfl ?_
        refine k_cV0 rfl cw_R_left wd_567 (sr_o S) rfl (by decide) (Nat.le_of_ble_eq_true rfl) ?_
        refine c_R_left P I ?_
        refine k_lsubN rfl hll ?_
        refine k_aload_n rfl rfl ?_
        refine k_gL rfl rfl (sr_o S) (pr_bl P) ?_
        refine k_lmulN rfl ?_
        refine k_aload_n rfl rfl ?_
        refine k_gL rfl rfl (sr_o S) (pr_ab P) ?_
        refine k_aload_n rfl rfl ?_
        refine k_cV0 rfl cw_R_all wd_553 (sr_o S) rfl (by decide) (Nat.le_of_ble_eq_true rfl) ?_
        refine c_R_all P I ?_
        refine k_lmulN rfl ?_
        refine k_ldc2 rfl wd_515 ?_
        rw [lN_W]
        refine k_lmulN rfl ?_
        refine klN_lt rfl rfl (by omega) (by omega) (fun c59 => ?_) (fun c59 => ?_)
        · refine k_iconst (v := nI 0) rfl (by decide) ?_
          refine k_iret rfl rfl (Nat.le_refl _) (Nat.le_refl _) ?_
          rw [if_neg (by omega), if_neg (by simp only [not_or]; exact ⟨hse, by omega⟩)] at hQ; exact hQ
        · refine k_iconst (v := nI 1) rfl (by decide) ?_
          refine k_goto rfl ?_
          refine k_iret rfl rfl (Nat.le_refl _) (Nat.le_refl _) ?_
          rw [if_neg (by omega), if_pos (Or.inr (by omega))] at hQ; exact hQ
    · refine k_iconst (v := -1) rfl (by decide) ?_
      refine k_iret rfl rfl (Nat.le_refl _) (Nat.le_refl _) ?_
      rw [if_pos (Or.inr c14)] at hQ; exact hQ
theorem c_R_rank {g : Gx} {h : Hp} {m d : Nat} {s : St} {Q : Option Value → Hp → Prop} (P : PR g h m s) (I : Inv s) {k : Nat} (hk : k < s_told s) (hQ : Q (some (.long (lN (rk s k)))) h) : Ct g M_R_rank (d + 1) 0 0 [.ref m, .int (nI k)] h Q := by
  have S := pr_S P
  have bT := v_told I
  have bL := v_lkr I
  refine ct_of ok_R_rank (by decide) (Nat.le_of_ble_eq_true rfl) [some (.ref m), some (.int (nI k))] rfl rfl ?_
  have bK := v_lks I
  have hld : ∀ l k, l < s_lkr s → k < s_told s → s_ld s l k ≤ 20000 := fun l k h1 h2 => by have := v_ld I l k (by omega) h2; omega
  have hcb := v_cells I
  have hnb := v_num I k hk
  have hc := v_cn I 0 k (by decide) hk
  unfold rk at hQ
  cases hs : s_seen s with
  | some q =>
    have hq := v_seen I q hs
    rw [hs] at hQ
    simp only at hQ
    refine k_aload_n rfl rfl ?_
    refine k_gI (x := nI q) rfl rfl (sr_o S) ((pr_seen P).trans (by rw [hs]; rfl)) ?_
    refine k_iconst (v := -1) rfl (by decide) ?_
    refine k_icmp_eq rfl (fun c5 => ?_) (fun c5 => ?_)
    · exact absurd c5 (nI_m1 (by omega))
    · refine k_aload_n rfl rfl ?_
      refine k_getR rfl rfl (sr_o S) (sr_cell S) ?_
      refine k_iload_n rfl rfl ?_
      refine k_iA rfl (sr_a1 S) rfl (by omega) (by decide) (pr_num P k hk) ?_
      refine k_aload_n rfl rfl ?_
      refine k_gI (x := nI q) rfl rfl (sr_o S) ((pr_seen P).trans (by rw [hs]; rfl)) ?_
      refine kn_ne rfl (by omega) (by omega) (fun c18 => ?_) (fun c18 => ?_)
      · refine k_lconst (v := lN 0) rfl (by decide) ?_
        refine k_goto rfl ?_
        refine k_lret rfl rfl (Nat.le_refl _) (Nat.le_refl _) ?_
        rw [if_neg c18] at hQ; exact hQ
      · refine k_lconst (v := lN 1) rfl (by decide) ?_
        refine k_goto rfl ?_
        refine k_lret rfl rfl (Nat.le_refl _) (Nat.le_refl _) ?_
        rw [if_pos c18] at hQ; exact hQ
  | none =>
    rw [hs] at hQ
    refine k_aload_n rfl rfl ?_
    refine k_gI (x := -1) rfl rfl (sr_o S) ((pr_seen P).trans (by rw [hs]; rfl)) ?_
    refine k_iconst (v := -1) rfl (by decide) ?_
    refine k_icmp_eq rfl (fun c5 => ?_) (fun c5 => ?_)
    · refine k_aload_n rfl rfl ?_
      refine k_getR rfl rfl (sr_o S) (sr_count S) ?_
      refine k_iload_n rfl rfl ?_
      refine k_iA rfl (sr_a3 S) (c0_ix k) (by omega) (by decide) (pr_cn P 0 k (by decide) hk) ?_
      refine k_i2lN rfl (by omega) ?_
      refine k_aload_n rfl rfl ?_
      refine k_aload_n rfl rfl ?_
      refine k_getR rfl rfl (sr_o S) (sr_looked S) ?_
      refine k_iload_n rfl rfl ?_
      refine k_cV2 rfl cw_R_missed wd_516 (sr_o S) rfl (by decide) (Nat.le_of_ble_eq_true rfl) ?_
      refine c_R_missed (f := fun l => s_ld s l k) P I (sr_a9 S) hk (fun l hl => pr_ld P l k (by omega) hk) (fun l hl => hld l k hl hk) ?_
      refine k_lmulN rfl ?_
      refine k_lret rfl rfl (Nat.le_refl _) (Nat.le_refl _) ?_
      exact hQ
    · exact absurd rfl c5
