/-! n hours in sl places: T; the next one; all of them come -/
def smT (T : Nat → Nat) : Nat → Nat
  | 0 => 0
  | i + 1 => smT T i + T i
def cmpT (sl n : Nat) (T : Nat → Nat) : Prop := (∀ i, sl ≤ i → T i = 0) ∧ smT T sl = n
def nxT (T : Nat → Nat) (i : Nat) : Nat → Nat := fun x => if x = 0 then T i - 1 else if x = i then 0 else if x = i + 1 then T (i + 1) + 1 else T x
def cl (sl : Nat) (U T : Nat → Nat) : Prop := ∃ j, j < sl ∧ U j < T j ∧ ∀ x, j < x → x < sl → U x = T x
theorem smT_0 {T : Nat → Nat} : ∀ j, (∀ x, x < j → T x = 0) → smT T j = 0
  | 0, _ => rfl
  | j + 1, h => by simp only [smT]; rw [smT_0 j (fun x hx => h x (by omega)), h j (by omega)]
theorem smT_of0 {T : Nat → Nat} : ∀ j, smT T j = 0 → ∀ x, x < j → T x = 0
  | 0, _, x, hx => by omega
  | j + 1, h, x, hx => by
    simp only [smT] at h
    by_cases e : x = j
    · subst e; omega
    · exact smT_of0 j (by omega) x (by omega)
theorem smT_le {T : Nat → Nat} : ∀ j x, x < j → T x ≤ smT T j
  | 0, x, hx => by omega
  | j + 1, x, hx => by
    simp only [smT]
    by_cases e : x = j
    · subst e; omega
    · have := smT_le (T := T) j x (by omega); omega
theorem smT_pre {U T : Nat → Nat} {sl j : Nat} (h : smT U sl = smT T sl) (hj : j ≤ sl) (e : ∀ x, j ≤ x → x < sl → U x = T x) : smT U j = smT T j := by
  induction sl with
  | zero => have : j = 0 := by omega
            subst this; rfl
  | succ sl ih =>
    by_cases q : j = sl + 1
    · subst q; exact h
    · refine ih ?_ (by omega) (fun x h1 h2 => e x h1 (by omega))
      simp only [smT] at h
      have := e sl (by omega) (by omega)
      omega
theorem smT_suf {U T : Nat → Nat} {a : Nat} (h : smT U a = smT T a) : ∀ q, (∀ x, a ≤ x → x < a + q → U x = T x) → smT U (a + q) = smT T (a + q)
  | 0, _ => h
  | q + 1, e => by
    have h1 := smT_suf h q (fun x h1 h2 => e x h1 (by omega))
    have h2 := e (a + q) (by omega) (by omega)
    show smT U (a + q) + U (a + q) = smT T (a + q) + T (a + q)
    omega
theorem smT_1 {T : Nat → Nat} : ∀ j, 0 < j → (∀ x, 0 < x → x < j → T x = 0) → smT T j = T 0
  | 0, h, _ => by omega
  | 1, _, _ => by simp [smT]
  | j + 2, _, h => by
    show smT T (j + 1) + T (j + 1) = _
    rw [smT_1 (j + 1) (by omega) (fun x h1 h2 => h x h1 (by omega)), h (j + 1) (by omega) (by omega)]; rfl
theorem nx_sum {T : Nat → Nat} {i : Nat} (h0 : ∀ x, x < i → T x = 0) (hp : 0 < T i) : smT (nxT T i) (i + 2) = smT T (i + 2) := by
  show smT (nxT T i) (i + 1) + nxT T i (i + 1) = smT T (i + 1) + T (i + 1)
  have e1 : smT T (i + 1) = T i := by show smT T i + T i = _; rw [smT_0 i h0, Nat.zero_add]
  have e2 : smT (nxT T i) (i + 1) = T i - 1 := by
    rw [smT_1 (i + 1) (by omega) (fun x h1 h2 => ?_)]
    · rfl
    · unfold nxT
      rw [if_neg (by omega)]
      by_cases e : x = i
      · rw [if_pos e]
      · rw [if_neg e, if_neg (by omega)]; exact h0 x (by omega)
  have e3 : nxT T i (i + 1) = T (i + 1) + 1 := by unfold nxT; rw [if_neg (by omega), if_neg (by omega), if_pos rfl]
  omega
theorem nx_cmp {sl n i : Nat} {T : Nat → Nat} (h : cmpT sl n T) (hi : i + 1 < sl) (h0 : ∀ x, x < i → T x = 0) (hp : 0 < T i) : cmpT sl n (nxT T i) := by
  refine ⟨fun x hx => ?_, ?_⟩
  · unfold nxT
    rw [if_neg (by omega), if_neg (by omega), if_neg (by omega)]
    exact h.1 x hx
  · obtain ⟨q, rfl⟩ : ∃ q, sl = i + 2 + q := ⟨sl - (i + 2), by omega⟩
    rw [smT_suf (nx_sum h0 hp) q (fun x h1 h2 => ?_)]
    · exact h.2
    · unfold nxT
      rw [if_neg (by omega), if_neg (by omega), if_neg (by omega)]
theorem cl_nx {sl n i : Nat} {U T : Nat → Nat} (hU : cmpT sl n U) (hT : cmpT sl n T) (hi : i + 1 < sl) (h0 : ∀ x, x < i → T x = 0) (hp : 0 < T i) (h : cl sl U (nxT T i)) : cl sl U T ∨ U = T := by
  obtain ⟨j, hj, hlt, hab⟩ := h
  have nz : ∀ x, i + 1 < x → nxT T i x = T x := fun x hx => by unfold nxT; rw [if_neg (by omega), if_neg (by omega), if_neg (by omega)]
  have e1 : nxT T i (i + 1) = T (i + 1) + 1 := by unfold nxT; rw [if_neg (by omega), if_neg (by omega), if_pos rfl]
  have hs : smT U sl = smT T sl := hU.2.trans hT.2.symm
  by_cases c1 : i + 1 < j
  · rw [nz j c1] at hlt
    exact Or.inl ⟨j, hj, hlt, fun x h1 h2 => by rw [hab x h1 h2, nz x (by omega)]⟩
  · by_cases c2 : j = i + 1
    · subst c2
      rw [e1] at hlt
      have ab : ∀ x, i + 1 < x → x < sl → U x = T x := fun x h1 h2 => by rw [hab x h1 h2, nz x h1]
      by_cases c3 : U (i + 1) < T (i + 1)
      · exact Or.inl ⟨i + 1, hj, c3, ab⟩
      · have c4 : U (i + 1) = T (i + 1) := by omega
        have ab1 : ∀ x, i + 1 ≤ x → x < sl → U x = T x := fun x h1 h2 => by
          by_cases e : x = i + 1
          · rw [e]; exact c4
          · exact ab x (by omega) h2
        have p1 := smT_pre hs (by omega) ab1
        have p2 : smT T (i + 1) = T i := by show smT T i + T i = _; rw [smT_0 i h0, Nat.zero_add]
        have p3 := smT_le (T := U) (i + 1) i (by omega)
        by_cases c5 : U i < T i
        · exact Or.inl ⟨i, by omega, c5, fun x h1 h2 => ab1 x (by omega) h2⟩
        · right
          have c6 : U i = T i := by omega
          have p4 : smT U i = 0 := by
            have : smT U (i + 1) = smT U i + U i := rfl
            omega
          have p5 := smT_of0 i p4
          funext x
          by_cases q1 : x < i
          · rw [p5 x q1, h0 x q1]
          · by_cases q2 : x = i
            · rw [q2]; exact c6
            · by_cases q3 : x < sl
              · exact ab1 x (by omega) q3
              · rw [hU.1 x (by omega), hT.1 x (by omega)]
    · by_cases c3 : j = 0
      · subst c3
        exfalso
        have hN := nx_cmp hT hi h0 hp
        have p1 := smT_pre (j := 1) (hU.2.trans hN.2.symm) (by omega) (fun x h1 h2 => hab x (by omega) h2)
        have p2 : smT U 1 = U 0 := by simp [smT]
        have p3 : smT (nxT T i) 1 = nxT T i 0 := by simp [smT]
        omega
      · exfalso
        have : nxT T i j = 0 := by
          unfold nxT
          rw [if_neg c3]
          by_cases e : j = i
          · rw [if_pos e]
          · rw [if_neg e, if_neg c2]; exact h0 j (by omega)
        omega
theorem cl_end {sl n i : Nat} {U T : Nat → Nat} (hU : cmpT sl n U) (hT : cmpT sl n T) (hi : sl ≤ i + 1) (h0 : ∀ x, x < i → x < sl → T x = 0) : cl sl U T ∨ U = T := by
  have hs : smT U sl = smT T sl := hU.2.trans hT.2.symm
  cases sl with
  | zero => exact Or.inr (funext fun x => by rw [hU.1 x (by omega), hT.1 x (by omega)])
  | succ k =>
    have p2 : smT T k = 0 := smT_0 k (fun x hx => h0 x (by omega) (by omega))
    have p3 : smT U (k + 1) = smT U k + U k := rfl
    have p4 : smT T (k + 1) = smT T k + T k := rfl
    by_cases c : U k < T k
    · exact Or.inl ⟨k, by omega, c, fun x h1 h2 => by omega⟩
    · right
      have p5 := smT_of0 k (show smT U k = 0 by omega)
      funext x
      by_cases q1 : x < k
      · rw [p5 x q1, h0 x (by omega) (by omega)]
      · by_cases q2 : x = k
        · rw [q2]; omega
        · rw [hU.1 x (by omega), hT.1 x (by omega)]
def rkT (b : Nat) (T : Nat → Nat) : Nat → Nat
  | 0 => 0
  | i + 1 => rkT b T i + T i * b ^ i
theorem rkT_0 {b : Nat} {T : Nat → Nat} : ∀ j, (∀ x, x < j → T x = 0) → rkT b T j = 0
  | 0, _ => rfl
  | j + 1, h => by simp only [rkT]; rw [rkT_0 j (fun x hx => h x (by omega)), h j (by omega), Nat.zero_mul]
theorem rkT_1 {b : Nat} {T : Nat → Nat} : ∀ j, 0 < j → (∀ x, 0 < x → x < j → T x = 0) → rkT b T j = T 0
  | 0, h, _ => by omega
  | 1, _, _ => by simp [rkT]
  | j + 2, _, h => by
    show rkT b T (j + 1) + T (j + 1) * b ^ (j + 1) = _
    rw [rkT_1 (j + 1) (by omega) (fun x h1 h2 => h x h1 (by omega)), h (j + 1) (by omega) (by omega), Nat.zero_mul]; rfl
theorem rkT_suf {b : Nat} {U T : Nat → Nat} {a : Nat} (h : rkT b T a < rkT b U a) : ∀ q, (∀ x, a ≤ x → x < a + q → U x = T x) → rkT b T (a + q) < rkT b U (a + q)
  | 0, _ => h
  | q + 1, e => by
    have h1 := rkT_suf h q (fun x h1 h2 => e x h1 (by omega))
    have h2 := e (a + q) (by omega) (by omega)
    show rkT b T (a + q) + T (a + q) * b ^ (a + q) < rkT b U (a + q) + U (a + q) * b ^ (a + q)
    rw [h2]; omega
theorem rkT_le {b : Nat} (hb : 0 < b) {T : Nat → Nat} : ∀ j, rkT b T j ≤ smT T j * b ^ j
  | 0 => by simp [rkT]
  | j + 1 => by
    have h1 := rkT_le hb (T := T) j
    have h2 : b ^ j ≤ b ^ (j + 1) := Nat.pow_le_pow_right hb (by omega)
    have h3 : smT T j * b ^ j ≤ smT T j * b ^ (j + 1) := Nat.mul_le_mul_left _ h2
    have h4 : T j * b ^ j ≤ T j * b ^ (j + 1) := Nat.mul_le_mul_left _ h2
    show rkT b T j + T j * b ^ j ≤ (smT T j + T j) * b ^ (j + 1)
    rw [Nat.add_mul]; omega
theorem nx_rk {sl n i : Nat} {T : Nat → Nat} (h : cmpT sl n T) (hi : i + 1 < sl) (h0 : ∀ x, x < i → T x = 0) (hp : 0 < T i) : rkT (n + 1) T sl < rkT (n + 1) (nxT T i) sl := by
  obtain ⟨q, rfl⟩ : ∃ q, sl = i + 2 + q := ⟨sl - (i + 2), by omega⟩
  refine rkT_suf ?_ q (fun x h1 h2 => by unfold nxT; rw [if_neg (by omega), if_neg (by omega), if_neg (by omega)])
  show rkT (n + 1) T (i + 1) + T (i + 1) * (n + 1) ^ (i + 1) < rkT (n + 1) (nxT T i) (i + 1) + nxT T i (i + 1) * (n + 1) ^ (i + 1)
  have e1 : rkT (n + 1) T (i + 1) = T i * (n + 1) ^ i := by show rkT _ T i + _ = _; rw [rkT_0 i h0, Nat.zero_add]
  have e3 : nxT T i (i + 1) = T (i + 1) + 1 := by unfold nxT; rw [if_neg (by omega), if_neg (by omega), if_pos rfl]
  have hTi : T i ≤ n := by rw [← h.2]; exact smT_le _ i (by omega)
  have e4 : T i * (n + 1) ^ i < (n + 1) ^ (i + 1) := by
    rw [Nat.pow_succ, Nat.mul_comm]
    exact Nat.mul_lt_mul_of_pos_left (by omega) (Nat.pow_pos (by omega))
  rw [e1, e3, Nat.add_mul, Nat.one_mul]
  omega
/-- the plan that T is -/
def TF (s : St) (T : Nat → Nat) : Nat → Nat → Nat := fun l k => T (l * s_told s + k)
def mbT (s : St) (T : Nat → Nat) : Nat → Bool
  | 0 => true
  | l + 1 => mbT s T l && decide (gv (TF s T) l (s_told s) ≤ us s l)
def okT (s : St) (mo : Nat) (T : Nat → Nat) : Prop := mbT s T (s_lkr s) = true ∧ mo < wo s (TF s T) (s_told s)
def slN (t x : Nat) : Nat := 40 * (x / t) + x % t
theorem slN_inj {t x y : Nat} (h0 : 0 < t) (h4 : t ≤ 40) (h : slN t x = slN t y) : x = y := by
  unfold slN at h
  have h1 := Nat.mod_lt x h0
  have h2 := Nat.mod_lt y h0
  have e1 : x / t = y / t := by omega
  have e2 : x % t = y % t := by omega
  have d1 := Nat.div_add_mod x t
  have d2 := Nat.div_add_mod y t
  rw [← d1, ← d2, e1, e2]
theorem slN_lk {t l k : Nat} (hk : k < t) : slN t (l * t + k) = 40 * l + k := by
  unfold slN
  have h0 : 0 < t := by omega
  rw [Nat.mul_comm l t, Nat.mul_add_div h0, Nat.div_eq_of_lt hk, Nat.mul_add_mod, Nat.mod_eq_of_lt hk, Nat.add_zero]
theorem slN_lt {t x L : Nat} (h0 : 0 < t) (h4 : t ≤ 40) (hL : L ≤ 4) (h : x < t * L) : slN t x < 160 := by
  unfold slN
  have h1 := Nat.mod_lt x h0
  have h2 : x / t < L := Nat.div_lt_of_lt_mul h
  omega
theorem lk_lt {t L l k : Nat} (hl : l < L) (hk : k < t) : l * t + k < t * L := by
  have h1 : (l + 1) * t ≤ L * t := Nat.mul_le_mul_right t hl
  rw [Nat.add_mul, Nat.one_mul, Nat.mul_comm L t] at h1
  omega
theorem PR_tr {g : Gx} {h : Hp} {m j : Nat} {x : Int32} {s : St} (P : PR g h m s) : PR g (hp_ui h (m + 8) j x) m s := by
  have S := pr_S P
  exact ⟨S, ((by simp only [i_ui, j_ui, i_uj, j_uj]; (repeat rw [if_neg (by omega)]); exact pr_cells (s := s) P)), ((by simp only [i_ui, j_ui, i_uj, j_uj]; (repeat rw [if_neg (by omega)]); exact pr_told (s := s) P)), (fun k z => (by simp only [i_ui, j_ui, i_uj, j_uj]; (repeat rw [if_neg (by omega)]); exact pr_num (s := s) P k z)), (fun k z => (by simp only [i_ui, j_ui, i_uj, j_uj]; (repeat rw [if_neg (by omega)]); exact pr_ar (s := s) P k z)), (fun t k z y => (by simp only [i_ui, j_ui, i_uj, j_uj]; (repeat rw [if_neg (by omega)]); exact pr_cn (s := s) P t k z y)), ((by simp only [i_ui, j_ui, i_uj, j_uj]; (repeat rw [if_neg (by omega)]); exact pr_things (s := s) P)), ((by simp only [i_ui, j_ui, i_uj, j_uj]; (repeat rw [if_neg (by omega)]); exact pr_lkr (s := s) P)), (fun k z => (by simp only [i_ui, j_ui, i_uj, j_uj]; (repeat rw [if_neg (by omega)]); exact pr_rt (s := s) P k z)), (fun k z => (by simp only [i_ui, j_ui, i_uj, j_uj]; (repeat rw [if_neg (by omega)]); exact pr_hr (s := s) P k z)), (fun t k z y => (by simp only [i_ui, j_ui, i_uj, j_uj]; (repeat rw [if_neg (by omega)]); exact pr_bd (s := s) P t k z y)), (fun t k z y => (by simp only [i_ui, j_ui, i_uj, j_uj]; (repeat rw [if_neg (by omega)]); exact pr_pl (s := s) P t k z y)), (fun t k z y => (by simp only [i_ui, j_ui, i_uj, j_uj]; (repeat rw [if_neg (by omega)]); exact pr_ld (s := s) P t k z y)), ((by simp only [i_ui, j_ui, i_uj, j_uj]; (repeat rw [if_neg (by omega)]); exact pr_lks (s := s) P)), (fun k z => (by simp only [i_ui, j_ui, i_uj, j_uj]; (repeat rw [if_neg (by omega)]); exact pr_gl (s := s) P k z)), (fun k z => (by simp only [i_ui, j_ui, i_uj, j_uj]; (repeat rw [if_neg (by omega)]); exact pr_gc (s := s) P k z)), (fun k z => (by simp only [i_ui, j_ui, i_uj, j_uj]; (repeat rw [if_neg (by omega)]); exact pr_gh (s := s) P k z)), (fun k z => (by simp only [i_ui, j_ui, i_uj, j_uj]; (repeat rw [if_neg (by omega)]); exact pr_gt (s := s) P k z)), ((by simp only [i_ui, j_ui, i_uj, j_uj]; (repeat rw [if_neg (by omega)]); exact pr_seen (s := s) P)), ((by simp only [i_ui, j_ui, i_uj, j_uj]; (repeat rw [if_neg (by omega)]); exact pr_ab (s := s) P)), ((by simp only [i_ui, j_ui, i_uj, j_uj]; (repeat rw [if_neg (by omega)]); exact pr_bl (s := s) P))⟩
theorem c_R_isBetter {g : Gx} {h : Hp} {m d : Nat} {s : St} {Q : Option Value → Hp → Prop} (P : PR g h m s) (I : Inv s) {sl n mo : Nat} (hsl : sl = s_told s * s_lkr s) (hn : n ≤ 5) (hmo : mo < 2 ^ 63) (hQ : ∀ (h1 : Hp) (b : Bool), hp_fr (inR m) h h1 → PR g h1 m s → (b = true ↔ 0 < sl ∧ ∃ T, cmpT sl n T ∧ okT s mo T) → Q (some (.int (bI b))) h1) : Ct g M_R_isBetter (d + 2) 0 0 [.ref m, .int (nI sl), .int (nI n), .long (lN mo)] h Q := by
  have S := pr_S P
  have bT := v_told I
  have bL := v_lkr I
  refine ct_of ok_R_isBetter (by decide) (Nat.le_of_ble_eq_true rfl) [some (.ref m), some (.int (nI sl)), some (.int (nI n)), some (.long (lN mo)), none, none, none, none, none] rfl rfl ?_
  have hslb : sl ≤ 160 := by rw [hsl]; exact Nat.le_trans (Nat.mul_le_mul bT bL) (by decide)
  refine k_iload_n rfl rfl ?_
  refine k_if_ne rfl (fun c1 => ?_) (fun c1 => ?_)
  · have h0 : 0 < sl := Nat.pos_of_ne_zero (fun z => c1 (by rw [z]; rfl))
    refine k_iconst (v := nI 0) rfl (by decide) ?_
    refine k_ist5 rfl rfl ?_
    have hT0 : 0 < s_told s := Nat.pos_of_ne_zero (fun z => by rw [z, Nat.zero_mul] at hsl; omega)
    suffices Hz : ∀ (qz i : Nat) (h1 : Hp), i + qz = 160 → hp_fr (inR m) h h1 → PR g h1 m s → (∀ j, j < i → hp_i h1 (m + 8) j = nI 0) → Om g M_R_isBetter (d + 2) Q h1 9 [some (.ref m), some (.int (nI sl)), some (.int (nI n)), some (.long (lN mo)), none, some (.int (nI i)), none, none, none] [] from Hz 160 0 h rfl fr_rf P (fun j hj => absurd hj (Nat.not_lt_zero j))
    intro qz
    induction qz with
    | zero =>
      intro i h1 hi x1 P1 hz
      have S1 := pr_S P1
      have ei : i = 160 := by omega
      subst ei
      refine k_iload rfl rfl ?_
      refine k_sipush (v := nI 160) rfl (by decide) ?_
      refine kn_ge rfl (by omega) (by omega) (fun c14 => ?_) (fun c14 => ?_)
      · refine k_aload_n rfl rfl ?_
        refine k_getR rfl rfl (sr_o S1) (sr_trial S1) ?_
        refine k_aload_n rfl rfl ?_
        refine k_iconst (v := nI 0) rfl (by decide) ?_
        refine k_cV1 rfl cw_R_slot wd_544 (sr_o S1) rfl (by decide) (Nat.le_of_ble_eq_true rfl) ?_
        refine c_R_slot P1 I (i := 0) hT0 (by omega) ?_
        refine k_iload_n rfl rfl ?_
        refine k_iS rfl (sr_a8 S1) (j := slN (s_told s) 0) rfl (slN_lt hT0 bT bL (by omega)) (by decide) ?_
        refine k_iconst (v := nI 1) rfl (by decide) ?_
        refine k_ist5 rfl rfl ?_
        suffices H : ∀ (q : Nat) (T : Nat → Nat) (h1 : Hp) (z6 z7 z8 : Option Value), lc_1 z6 = true → lc_1 z7 = true → lc_1 z8 = true → n * (n + 1) ^ sl < q + rkT (n + 1) T sl → hp_fr (inR m) h h1 → PR g h1 m s → cmpT sl n T → (∀ x, x < sl → hp_i h1 (m + 8) (slN (s_told s) x) = nI (T x)) → (∀ U, cmpT sl n U → cl sl U T → ¬ okT s mo U) → Om g M_R_isBetter (d + 2) Q h1 45 [some (.ref m), some (.int (nI sl)), some (.int (nI n)), some (.long (lN mo)), none, some (.int (nI 1)), z6, z7, z8] [] from H (n * (n + 1) ^ sl + 1) (fun x => if x = 0 then n else 0) _ none none none rfl rfl rfl (by omega) (fr_tr x1 (fr_ui ⟨by omega, by omega⟩)) (PR_tr P1)
            ⟨fun x hx => if_neg (by omega), by
              rw [smT_1 sl h0 (fun x a b => if_neg (by omega))]; rfl⟩
            (fun x hx => by
              rw [i_ui]
              by_cases e0 : x = 0
              · rw [if_pos ⟨rfl, by rw [e0]⟩, if_pos e0]
              · rw [if_neg (fun z => e0 (slN_inj hT0 bT z.2)), if_neg e0]
                exact hz _ (slN_lt hT0 bT bL (by omega)))
            (fun U hU q oU => by
              obtain ⟨j, hj, hlt, hab⟩ := q
              by_cases e0 : j = 0
              · subst e0
                have p1 := smT_1 (T := U) sl h0 (fun x a b => by rw [hab x a b]; exact if_neg (by omega))
                rw [hU.2] at p1
                have hl2 : U 0 < (if (0 : Nat) = 0 then n else 0) := hlt
                rw [if_pos rfl] at hl2
                omega
              · have hl2 : U j < (if j = 0 then n else 0) := hlt
                rw [if_neg e0] at hl2
                omega)
        intro q
        induction q with
        | zero =>
          intro T h1 z6 z7 z8 a6 a7 a8 hm x1 P1 hC
          have r1 := rkT_le (b := n + 1) (by omega) (T := T) sl
          rw [hC.2] at r1
          exact absurd hm (by omega)
        | succ q ih =>
          intro T h1 z6 z7 z8 a6 a7 a8 hm x1 P1 hC hTr hV
          have S1 := pr_S P1
          have hrow : ∀ l1 k1, l1 < s_lkr s → k1 < s_told s → hp_i h1 (m + 8) (40 * l1 + k1) = nI (TF s T l1 k1) := fun l1 k1 a b => by
            have y := hTr (l1 * s_told s + k1) (by rw [hsl]; exact lk_lt a b)
            rw [slN_lk b] at y
            exact y
          have J122 : ∀ (z6 z7 z8 : Option Value), lc_1 z6 = true → ¬ okT s mo T → Om g M_R_isBetter (d + 2) Q h1 122 [some (.ref m), some (.int (nI sl)), some (.int (nI n)), some (.long (lN mo)), none, some (.int (nI 1)), z6, z7, z8] [] := by
            intro z6 z7 z8 hz6 hno
            refine k_iconst (v := nI 0) rfl (by decide) ?_
            refine k_ist7 rfl hz6 ?_
            have J151 : ∀ (i : Nat) (z8 : Option Value), i ≤ sl → (∀ x, x < i → x < sl → T x = 0) → (i < sl → T i ≠ 0) → Om g M_R_isBetter (d + 2) Q h1 151 [some (.ref m), some (.int (nI sl)), some (.int (nI n)), some (.long (lN mo)), none, some (.int (nI 1)), z6, some (.int (nI i)), z8] [] := by
              intro i z8 hi hz hT9
              by_cases he : sl ≤ i + 1
              · refine k_iload rfl rfl ?_
                refine k_iload_n rfl rfl ?_
                refine k_iconst (v := 1) rfl (by decide) ?_
                refine k_isub rfl ?_
                rw [show nI sl - 1 = nI (sl - 1) from by obtain ⟨y, rfl⟩ : ∃ y, sl = y + 1 := ⟨sl - 1, by omega⟩; exact nI_pred y]
                refine kn_ge rfl (by omega) (by omega) (fun c156 => ?_) (fun c156 => ?_)
                · refine k_iconst (v := nI 0) rfl (by decide) ?_
                  refine k_ist5 rfl rfl ?_
                  refine k_iload rfl rfl ?_
                  refine k_if_eq rfl (fun c168 => ?_) (fun c168 => ?_)
                  · refine k_goto rfl ?_
                    refine k_iload rfl rfl ?_
                    refine k_if_eq rfl (fun c47 => ?_) (fun c47 => ?_)
                    · refine k_iconst (v := nI 0) rfl (by decide) ?_
                      refine k_zret rfl rfl (by decide) (Nat.le_refl _) (Nat.le_refl _) ?_
                      exact hQ h1 false x1 P1 ⟨fun z => (by cases z), fun z => by
                        obtain ⟨-, U, hU, oU⟩ := z
                        rcases cl_end hU hC he hz with q | q
                        · exact absurd oU (hV U hU q)
                        · rw [q] at oU; exact absurd oU hno⟩
                    · exact absurd rfl c47
                  · exact absurd rfl c168
                · exact absurd c156 (by omega)
              · have hi1 : i + 1 < sl := by omega
                have hz0 : ∀ x, x < i → T x = 0 := fun x hx => hz x hx (by omega)
                have hp : 0 < T i := by have := hT9 (by omega); omega
                have hTb := smT_le (T := T) sl i (by omega)
                have hTb1 := smT_le (T := T) sl (i + 1) (by omega)
                have hC2 := hC.2
                refine k_iload rfl rfl ?_
                refine k_iload_n rfl rfl ?_
                refine k_iconst (v := 1) rfl (by decide) ?_
                refine k_isub rfl ?_
                rw [show nI sl - 1 = nI (sl - 1) from by obtain ⟨y, rfl⟩ : ∃ y, sl = y + 1 := ⟨sl - 1, by omega⟩; exact nI_pred y]
                refine kn_ge rfl (by omega) (by omega) (fun c156 => ?_) (fun c156 => ?_)
                · exact absurd c156 (by omega)
                · refine k_iconst (v := nI 1) rfl (by decide) ?_
                  refine k_goto rfl ?_
                  refine k_ist5 rfl rfl ?_
                  refine k_iload rfl rfl ?_
                  refine k_if_eq rfl (fun c168 => ?_) (fun c168 => ?_)
                  · exact absurd c168 (by decide)
                  · refine k_aload_n rfl rfl ?_
                    refine k_getR rfl rfl (sr_o S1) (sr_trial S1) ?_
                    refine k_aload_n rfl rfl ?_
                    refine k_iload rfl rfl ?_
                    refine k_cV1 rfl cw_R_slot wd_544 (sr_o S1) rfl (by decide) (Nat.le_of_ble_eq_true rfl) ?_
                    refine c_R_slot P1 I (i := i) hT0 (by omega) ?_
                    refine k_iA rfl (sr_a8 S1) (j := slN (s_told s) i) rfl (slN_lt hT0 bT bL (by omega)) (by decide) (hTr i (by omega)) ?_
                    refine k_iconst (v := 1) rfl (by decide) ?_
                    refine k_isub rfl ?_
                    rw [show nI (T i) - 1 = nI (T i - 1) from by obtain ⟨y, ey⟩ : ∃ y, T i = y + 1 := ⟨T i - 1, by omega⟩; rw [ey]; exact nI_pred y]
                    refine k_ist8 rfl rfl ?_
                    refine k_aload_n rfl rfl ?_
                    refine k_getR rfl rfl (sr_o S1) (sr_trial S1) ?_
                    refine k_aload_n rfl rfl ?_
                    refine k_iload rfl rfl ?_
                    refine k_cV1 rfl cw_R_slot wd_544 (sr_o S1) rfl (by decide) (Nat.le_of_ble_eq_true rfl) ?_
                    refine c_R_slot P1 I (i := i) hT0 (by omega) ?_
                    refine k_iconst (v := nI 0) rfl (by decide) ?_
                    refine k_iS rfl (sr_a8 S1) (j := slN (s_told s) i) rfl (slN_lt hT0 bT bL (by omega)) (by decide) ?_
                    have P2 : PR g (hp_ui h1 (m + 8) (slN (s_told s) i) (nI 0)) m s := PR_tr P1
                    refine k_aload_n rfl rfl ?_
                    refine k_getR rfl rfl (sr_o S1) (sr_trial S1) ?_
                    refine k_aload_n rfl rfl ?_
                    refine k_iload rfl rfl ?_
                    refine k_iconst (v := nI 1) rfl (by decide) ?_
                    refine k_iaddN rfl ?_
                    refine k_cV1 rfl cw_R_slot wd_544 (sr_o S1) rfl (by decide) (Nat.le_of_ble_eq_true rfl) ?_
                    refine c_R_slot P2 I (i := i + 1) hT0 (by omega) ?_
                    refine k_dup2 rfl rfl rfl ?_
                    refine k_iA (x := nI (T (i + 1))) rfl (sr_a8 S1) (j := slN (s_told s) (i + 1)) rfl (slN_lt hT0 bT bL (by omega)) (by decide) (by rw [i_ui, if_neg (fun z => absurd (slN_inj hT0 bT z.2) (by omega))]; exact hTr (i + 1) (by omega)) ?_
                    refine k_iconst (v := nI 1) rfl (by decide) ?_
                    refine k_iaddN rfl ?_
                    refine k_iS rfl (sr_a8 S1) (j := slN (s_told s) (i + 1)) rfl (slN_lt hT0 bT bL (by omega)) (by decide) ?_
                    have P3 : PR g (hp_ui (hp_ui h1 (m + 8) (slN (s_told s) i) (nI 0)) (m + 8) (slN (s_told s) (i + 1)) (nI (T (i + 1) + 1))) m s := PR_tr P2
                    refine k_aload_n rfl rfl ?_
                    refine k_getR rfl rfl (sr_o S1) (sr_trial S1) ?_
                    refine k_aload_n rfl rfl ?_
                    refine k_iconst (v := nI 0) rfl (by decide) ?_
                    refine k_cV1 rfl cw_R_slot wd_544 (sr_o S1) rfl (by decide) (Nat.le_of_ble_eq_true rfl) ?_
                    refine c_R_slot P3 I (i := 0) hT0 (by omega) ?_
                    refine k_iload rfl rfl ?_
                    refine k_iS rfl (sr_a8 S1) (j := slN (s_told s) 0) rfl (slN_lt hT0 bT bL (by omega)) (by decide) ?_
                    have P4 := PR_tr (j := slN (s_told s) 0) (x := nI (T i - 1)) P3
                    refine k_goto rfl ?_
                    refine ih (nxT T i) _ _ _ _ hz6 rfl rfl ?_ (fr_tr x1 (fr_tr (fr_tr (fr_ui ⟨by omega, by omega⟩) (fr_ui ⟨by omega, by omega⟩)) (fr_ui ⟨by omega, by omega⟩))) P4 (nx_cmp hC hi1 hz0 hp) (fun x hx => ?_) (fun U hU q => ?_)
                    · have := nx_rk hC hi1 hz0 hp
                      omega
                    · rw [i_ui]
                      unfold nxT
                      by_cases e0 : x = 0
                      · rw [if_pos ⟨rfl, by rw [e0]⟩, if_pos e0]
                      · rw [if_neg (fun z => e0 (slN_inj hT0 bT z.2)), if_neg e0, i_ui]
                        by_cases e1 : x = i + 1
                        · rw [if_pos ⟨rfl, by rw [e1]⟩, if_neg (by omega), if_pos e1]
                        · rw [if_neg (fun z => e1 (slN_inj hT0 bT z.2)), i_ui]
                          by_cases e2 : x = i
                          · rw [if_pos ⟨rfl, by rw [e2]⟩, if_pos e2]
                          · rw [if_neg (fun z => e2 (slN_inj hT0 bT z.2)), if_neg e2, if_neg e1]
                            exact hTr x hx
                    · rcases cl_nx hU hC hi1 hz0 hp q with y | y
                      · exact hV U hU y
                      · rw [y]; exact hno
            suffices Hf : ∀ (qf i : Nat), i + qf = sl → (∀ x, x < i → x < sl → T x = 0) → Om g M_R_isBetter (d + 2) Q h1 125 [some (.ref m), some (.int (nI sl)), some (.int (nI n)), some (.long (lN mo)), none, some (.int (nI 1)), z6, some (.int (nI i)), z8] [] from Hf sl 0 (Nat.zero_add _) (fun x h1 => by omega)
            intro qf
            induction qf with
            | zero =>
              intro i hi hz
              refine k_iload rfl rfl ?_
              refine k_iload_n rfl rfl ?_
              refine kn_ge rfl (by omega) (by omega) (fun c128 => ?_) (fun c128 => ?_)
              · exact J151 i _ (by omega) hz (fun z => absurd z (by omega))
              · exact absurd c128 (by omega)
            | succ qf ihf =>
              intro i hi hz
              refine k_iload rfl rfl ?_
              refine k_iload_n rfl rfl ?_
              refine kn_ge rfl (by omega) (by omega) (fun c128 => ?_) (fun c128 => ?_)
              · exact absurd c128 (by omega)
              · refine k_aload_n rfl rfl ?_
                refine k_getR rfl rfl (sr_o S1) (sr_trial S1) ?_
                refine k_aload_n rfl rfl ?_
                refine k_iload rfl rfl ?_
                refine k_cV1 rfl cw_R_slot wd_544 (sr_o S1) rfl (by decide) (Nat.le_of_ble_eq_true rfl) ?_
                refine c_R_slot P1 I (i := i) hT0 (by omega) ?_
                refine k_iA rfl (sr_a8 S1) (j := slN (s_told s) i) rfl (slN_lt hT0 bT bL (by omega)) (by decide) (hTr i (by omega)) ?_
                refine k_if_ne rfl (fun c142 => ?_) (fun c142 => ?_)
                · have hTi : T i ≠ 0 := fun z => c142 (by rw [z]; rfl)
                  exact J151 i _ (by omega) hz (fun _ => hTi)
                · have hTi : T i = 0 := (nI_is0 (by have := smT_le (T := T) sl i (by omega); have := hC.2; omega)).mp c142
                  refine k_incN7 rfl hz6 ?_
                  refine k_goto rfl ?_
                  exact ihf (i + 1) (by omega) (fun x h1 h2 => by
                    by_cases e : x = i
                    · rw [e]; exact hTi
                    · exact hz x (by omega) h2)
          refine k_iload rfl rfl ?_
          refine k_if_eq rfl (fun c47 => ?_) (fun c47 => ?_)
          · exact absurd c47 (by decide)
          · refine k_iconst (v := nI 1) rfl (by decide) ?_
            refine k_ist6 rfl rfl ?_
            refine k_iconst (v := nI 0) rfl (by decide) ?_
            refine k_ist7 rfl rfl ?_
            suffices Hm : ∀ (qm l : Nat), l + qm = s_lkr s → Om g M_R_isBetter (d + 2) Q h1 56 [some (.ref m), some (.int (nI sl)), some (.int (nI n)), some (.long (lN mo)), none, some (.int (nI 1)), some (.int (bI (mbT s T l))), some (.int (nI l)), z8] [] from Hm _ 0 (Nat.zero_add _)
            intro qm
            induction qm with
            | zero =>
              intro l hl0
              have el : l = s_lkr s := by omega
              subst el
              refine k_iload rfl rfl ?_
              refine k_aload_n rfl rfl ?_
              refine k_gI rfl rfl (sr_o S1) (pr_lkr P1) ?_
              refine kn_ge rfl (by omega) (by omega) (fun c62 => ?_) (fun c62 => ?_)
              · refine k_iload rfl rfl ?_
                refine kb_eq rfl (fun c104 => ?_) (fun c104 => ?_)
                · exact J122 _ _ _ rfl (fun z => by have := z.1; rw [c104] at this; cases this)
                · refine k_aload_n rfl rfl ?_
                  refine k_aload_n rfl rfl ?_
                  refine k_getR rfl rfl (sr_o S1) (sr_trial S1) ?_
                  refine k_cV1 rfl cw_R_worth wd_507 (sr_o S1) rfl (by decide) (Nat.le_of_ble_eq_true rfl) ?_
                  refine c_R_worth (F := TF s T) P1 I (sr_a8 S1) hrow (fun l1 k1 a b => (by have := smT_le (T := T) sl _ (show l1 * s_told s + k1 < sl by rw [hsl]; exact lk_lt a b); have := hC.2; show T (l1 * s_told s + k1) ≤ 20000; omega)) ?_
                  have hwb := wo_le I (TF s T) (s_told s) (Nat.le_refl _)
                  refine k_lload_n rfl rfl ?_
                  refine klN_le rfl rfl (by omega) (by omega) (fun c116 => ?_) (fun c116 => ?_)
                  · exact J122 _ _ _ rfl (fun z => absurd z.2 (by omega))
                  · refine k_iconst (v := nI 1) rfl (by decide) ?_
                    refine k_zret rfl rfl (by decide) (Nat.le_refl _) (Nat.le_refl _) ?_
                    exact hQ h1 true x1 P1 ⟨fun _ => ⟨h0, T, hC, c104, c116⟩, fun _ => rfl⟩
              · exact absurd c62 (by omega)
            | succ qm ihm =>
              intro l hl0
              have hl : l < s_lkr s := by omega
              have hgl : gv (TF s T) l (s_told s) ≤ s_told s * 5 := gv_le _ (fun k1 b => by have := smT_le (T := T) sl _ (show l * s_told s + k1 < sl by rw [hsl]; exact lk_lt hl b); have := hC.2; show T (l * s_told s + k1) ≤ 5; omega)
              have hul : us s l ≤ 24 := Nat.le_trans (usN_le s l _) (v_hr I l hl).2
              refine k_iload rfl rfl ?_
              refine k_aload_n rfl rfl ?_
              refine k_gI rfl rfl (sr_o S1) (pr_lkr P1) ?_
              refine kn_ge rfl (by omega) (by omega) (fun c62 => ?_) (fun c62 => ?_)
              · exact absurd c62 (by omega)
              · refine k_iload rfl rfl ?_
                refine kb_eq rfl (fun c67 => ?_) (fun c67 => ?_)
                · refine k_iconst (v := nI 0) rfl (by decide) ?_
                  refine k_ist6 rfl rfl ?_
                  refine k_incN7 rfl rfl ?_
                  refine k_goto rfl ?_
                  have e9 := ihm (l + 1) (by omega)
                  simp only [mbT] at e9
                  rw [c67] at e9
                  exact e9
                · refine k_aload_n rfl rfl ?_
                  refine k_aload_n rfl rfl ?_
                  refine k_getR rfl rfl (sr_o S1) (sr_trial S1) ?_
                  refine k_iload rfl rfl ?_
                  refine k_cV2 rfl cw_R_given wd_520 (sr_o S1) rfl (by decide) (Nat.le_of_ble_eq_true rfl) ?_
                  refine c_R_given (F := TF s T) P1 I (sr_a8 S1) (by omega) (fun k1 hk1 => hrow l k1 hl hk1) ?_
                  refine k_aload_n rfl rfl ?_
                  refine k_iload rfl rfl ?_
                  refine k_cV1 rfl cw_R_use wd_524 (sr_o S1) rfl (by decide) (Nat.le_of_ble_eq_true rfl) ?_
                  refine c_R_use P1 I hl ?_
                  refine kn_gt rfl (by omega) (by omega) (fun c86 => ?_) (fun c86 => ?_)
                  · refine k_iconst (v := nI 0) rfl (by decide) ?_
                    refine k_ist6 rfl rfl ?_
                    refine k_incN7 rfl rfl ?_
                    refine k_goto rfl ?_
                    have e9 := ihm (l + 1) (by omega)
                    simp only [mbT] at e9
                    rw [c67, decide_eq_false (by omega)] at e9
                    exact e9
                  · refine k_iconst (v := nI 1) rfl (by decide) ?_
                    refine k_goto rfl ?_
                    refine k_ist6 rfl rfl ?_
                    refine k_incN7 rfl rfl ?_
                    refine k_goto rfl ?_
                    have e9 := ihm (l + 1) (by omega)
                    simp only [mbT] at e9
                    rw [c67, decide_eq_true c86] at e9
                    exact e9
      · exact absurd c14 (by omega)
    | succ qz ihz =>
      intro i h1 hi x1 P1 hz
      have S1 := pr_S P1
      refine k_iload rfl rfl ?_
      refine k_sipush (v := nI 160) rfl (by decide) ?_
      refine kn_ge rfl (by omega) (by omega) (fun c14 => ?_) (fun c14 => ?_)
      · exact absurd c14 (by omega)
      · refine k_aload_n rfl rfl ?_
        refine k_getR rfl rfl (sr_o S1) (sr_trial S1) ?_
        refine k_iload rfl rfl ?_
        refine k_iconst (v := nI 0) rfl (by decide) ?_
        refine k_iS rfl (sr_a8 S1) rfl (by omega) (by decide) ?_
        refine k_incN5 rfl rfl ?_
        refine k_goto rfl ?_
        refine ihz (i + 1) _ (by omega) (fr_tr x1 (fr_ui ⟨by omega, by omega⟩)) (PR_tr P1) (fun j hj => ?_)
        rw [i_ui]
        by_cases e : j = i
        · rw [if_pos ⟨rfl, e⟩]
        · rw [if_neg (fun z => e z.2)]; exact hz j (by omega)
  · have h0 : sl = 0 := (nI_is0 (by omega)).mp c1
    refine k_iconst (v := nI 0) rfl (by decide) ?_
    refine k_zret rfl rfl (by decide) (Nat.le_refl _) (Nat.le_refl _) ?_
    exact hQ h false fr_rf P ⟨fun z => (by cases z), fun z => absurd z.1 (by omega)⟩
