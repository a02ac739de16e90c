/-! THE REFERENCE: its shape: an object at m, its arrays at m + 1 .. m + 13 -/
def ShR (g : Gx) (h : Hp) (m : Nat) : Prop := isO g h m 4 ∧ isA g h (m + 1) 0 40 ∧ isA g h (m + 2) 0 40 ∧ isA g h (m + 3) 0 160 ∧ isA g h (m + 4) 0 4 ∧ isA g h (m + 5) 0 4 ∧ isA g h (m + 6) 2 96 ∧ isA g h (m + 7) 0 160 ∧ isA g h (m + 8) 0 160 ∧ isA g h (m + 9) 0 160 ∧ isA g h (m + 10) 0 200 ∧ isA g h (m + 11) 0 200 ∧ isA g h (m + 12) 0 200 ∧ isA g h (m + 13) 1 200 ∧ hp_r h m 2 = some (m + 1) ∧ hp_r h m 3 = some (m + 2) ∧ hp_r h m 4 = some (m + 3) ∧ hp_r h m 7 = some (m + 4) ∧ hp_r h m 8 = some (m + 5) ∧ hp_r h m 9 = some (m + 6) ∧ hp_r h m 10 = some (m + 7) ∧ hp_r h m 11 = some (m + 8) ∧ hp_r h m 12 = some (m + 9) ∧ hp_r h m 14 = some (m + 10) ∧ hp_r h m 15 = some (m + 11) ∧ hp_r h m 16 = some (m + 12) ∧ hp_r h m 17 = some (m + 13)
theorem sr_o {g : Gx} {h : Hp} {m : Nat} (S : ShR g h m) : isO g h m 4 := S.1
theorem sr_a1 {g : Gx} {h : Hp} {m : Nat} (S : ShR g h m) : isA g h (m + 1) 0 40 := S.2.1
theorem sr_a2 {g : Gx} {h : Hp} {m : Nat} (S : ShR g h m) : isA g h (m + 2) 0 40 := S.2.2.1
theorem sr_a3 {g : Gx} {h : Hp} {m : Nat} (S : ShR g h m) : isA g h (m + 3) 0 160 := S.2.2.2.1
theorem sr_a4 {g : Gx} {h : Hp} {m : Nat} (S : ShR g h m) : isA g h (m + 4) 0 4 := S.2.2.2.2.1
theorem sr_a5 {g : Gx} {h : Hp} {m : Nat} (S : ShR g h m) : isA g h (m + 5) 0 4 := S.2.2.2.2.2.1
theorem sr_a6 {g : Gx} {h : Hp} {m : Nat} (S : ShR g h m) : isA g h (m + 6) 2 96 := S.2.2.2.2.2.2.1
theorem sr_a7 {g : Gx} {h : Hp} {m : Nat} (S : ShR g h m) : isA g h (m + 7) 0 160 := S.2.2.2.2.2.2.2.1
theorem sr_a8 {g : Gx} {h : Hp} {m : Nat} (S : ShR g h m) : isA g h (m + 8) 0 160 := S.2.2.2.2.2.2.2.2.1
theorem sr_a9 {g : Gx} {h : Hp} {m : Nat} (S : ShR g h m) : isA g h (m + 9) 0 160 := S.2.2.2.2.2.2.2.2.2.1
theorem sr_a10 {g : Gx} {h : Hp} {m : Nat} (S : ShR g h m) : isA g h (m + 10) 0 200 := S.2.2.2.2.2.2.2.2.2.2.1
theorem sr_a11 {g : Gx} {h : Hp} {m : Nat} (S : ShR g h m) : isA g h (m + 11) 0 200 := S.2.2.2.2.2.2.2.2.2.2.2.1
theorem sr_a12 {g : Gx} {h : Hp} {m : Nat} (S : ShR g h m) : isA g h (m + 12) 0 200 := S.2.2.2.2.2.2.2.2.2.2.2.2.1
theorem sr_a13 {g : Gx} {h : Hp} {m : Nat} (S : ShR g h m) : isA g h (m + 13) 1 200 := S.2.2.2.2.2.2.2.2.2.2.2.2.2.1
theorem sr_cell {g : Gx} {h : Hp} {m : Nat} (S : ShR g h m) : hp_r h m 2 = some (m + 1) := S.2.2.2.2.2.2.2.2.2.2.2.2.2.2.1
theorem sr_areas {g : Gx} {h : Hp} {m : Nat} (S : ShR g h m) : hp_r h m 3 = some (m + 2) := S.2.2.2.2.2.2.2.2.2.2.2.2.2.2.2.1
theorem sr_count {g : Gx} {h : Hp} {m : Nat} (S : ShR g h m) : hp_r h m 4 = some (m + 3) := S.2.2.2.2.2.2.2.2.2.2.2.2.2.2.2.2.1
theorem sr_rate {g : Gx} {h : Hp} {m : Nat} (S : ShR g h m) : hp_r h m 7 = some (m + 4) := S.2.2.2.2.2.2.2.2.2.2.2.2.2.2.2.2.2.1
theorem sr_hours {g : Gx} {h : Hp} {m : Nat} (S : ShR g h m) : hp_r h m 8 = some (m + 5) := S.2.2.2.2.2.2.2.2.2.2.2.2.2.2.2.2.2.2.1
theorem sr_barred {g : Gx} {h : Hp} {m : Nat} (S : ShR g h m) : hp_r h m 9 = some (m + 6) := S.2.2.2.2.2.2.2.2.2.2.2.2.2.2.2.2.2.2.2.1
theorem sr_plan {g : Gx} {h : Hp} {m : Nat} (S : ShR g h m) : hp_r h m 10 = some (m + 7) := S.2.2.2.2.2.2.2.2.2.2.2.2.2.2.2.2.2.2.2.2.1
theorem sr_trial {g : Gx} {h : Hp} {m : Nat} (S : ShR g h m) : hp_r h m 11 = some (m + 8) := S.2.2.2.2.2.2.2.2.2.2.2.2.2.2.2.2.2.2.2.2.2.1
theorem sr_looked {g : Gx} {h : Hp} {m : Nat} (S : ShR g h m) : hp_r h m 12 = some (m + 9) := S.2.2.2.2.2.2.2.2.2.2.2.2.2.2.2.2.2.2.2.2.2.2.1
theorem sr_lookLooker {g : Gx} {h : Hp} {m : Nat} (S : ShR g h m) : hp_r h m 14 = some (m + 10) := S.2.2.2.2.2.2.2.2.2.2.2.2.2.2.2.2.2.2.2.2.2.2.2.1
theorem sr_lookCell {g : Gx} {h : Hp} {m : Nat} (S : ShR g h m) : hp_r h m 15 = some (m + 11) := S.2.2.2.2.2.2.2.2.2.2.2.2.2.2.2.2.2.2.2.2.2.2.2.2.1
theorem sr_lookHours {g : Gx} {h : Hp} {m : Nat} (S : ShR g h m) : hp_r h m 16 = some (m + 12) := S.2.2.2.2.2.2.2.2.2.2.2.2.2.2.2.2.2.2.2.2.2.2.2.2.2.1
theorem sr_lookTold {g : Gx} {h : Hp} {m : Nat} (S : ShR g h m) : hp_r h m 17 = some (m + 13) := S.2.2.2.2.2.2.2.2.2.2.2.2.2.2.2.2.2.2.2.2.2.2.2.2.2.2
def inR (m : Nat) (a : Nat) : Prop := m ≤ a ∧ a < m + 14
theorem sr_fr {g : Gx} {P : Nat → Prop} {h h1 : Hp} {m : Nat} (S : ShR g h m) (x : hp_fr P h h1) (e : hp_r h1 m = hp_r h m) : ShR g h1 m := by
  unfold ShR
  rw [e]
  exact ⟨fr_O x (sr_o S), fr_A x (sr_a1 S), fr_A x (sr_a2 S), fr_A x (sr_a3 S), fr_A x (sr_a4 S), fr_A x (sr_a5 S), fr_A x (sr_a6 S), fr_A x (sr_a7 S), fr_A x (sr_a8 S), fr_A x (sr_a9 S), fr_A x (sr_a10 S), fr_A x (sr_a11 S), fr_A x (sr_a12 S), fr_A x (sr_a13 S), sr_cell S, sr_areas S, sr_count S, sr_rate S, sr_hours S, sr_barred S, sr_plan S, sr_trial S, sr_looked S, sr_lookLooker S, sr_lookCell S, sr_lookHours S, sr_lookTold S⟩
def isc (n c : Int32) : Bool := decide (0 ≤ c) && decide (c < n)
theorem c_R_isCell {g : Gx} {h : Hp} {m d : Nat} {Q : Option Value → Hp → Prop} (S : ShR g h m) (c : Int32) (hQ : Q (some (.int (bI (isc (hp_i h m 0) c)))) h) : Ct g M_R_isCell d 0 0 [.ref m, .int c] h Q := by
  refine ct_of ok_R_isCell (by decide) (Nat.le_of_ble_eq_true rfl) [some (.ref m), some (.int c)] rfl rfl ?_
  refine k_iload_n rfl rfl ?_
  refine k_if_lt rfl (fun c1 => ?_) (fun c1 => ?_)
  · refine k_iconst (v := nI 0) rfl (by decide) ?_
    refine k_zret rfl rfl (by decide) (Nat.le_refl _) (Nat.le_refl _) ?_
    rw [show (nI 0 : Int32) = bI (isc (hp_i h m 0) c) from by simp [isc, bI, nI, Int32.not_le.mpr c1]]; exact hQ
  · refine k_iload_n rfl rfl ?_
    refine k_aload_n rfl rfl ?_
    refine k_gI rfl rfl (sr_o S) rfl ?_
    refine k_icmp_ge rfl (fun c9 => ?_) (fun c9 => ?_)
    · refine k_iconst (v := nI 0) rfl (by decide) ?_
      refine k_zret rfl rfl (by decide) (Nat.le_refl _) (Nat.le_refl _) ?_
      rw [show (nI 0 : Int32) = bI (isc (hp_i h m 0) c) from by simp [isc, bI, nI, Int32.not_lt.mpr c9]]; exact hQ
    · refine k_iconst (v := nI 1) rfl (by decide) ?_
      refine k_goto rfl ?_
      refine k_zret rfl rfl (by decide) (Nat.le_refl _) (Nat.le_refl _) ?_
      rw [show (nI 1 : Int32) = bI (isc (hp_i h m 0) c) from by simp [isc, bI, nI, Int32.not_lt.mp c1, Int32.not_le.mp c9]]; exact hQ
theorem c_R_isLooker {g : Gx} {h : Hp} {m d : Nat} {Q : Option Value → Hp → Prop} (S : ShR g h m) (c : Int32) (hQ : Q (some (.int (bI (isc (hp_i h m 6) c)))) h) : Ct g M_R_isLooker d 0 0 [.ref m, .int c] h Q := by
  refine ct_of ok_R_isLooker (by decide) (Nat.le_of_ble_eq_true rfl) [some (.ref m), some (.int c)] rfl rfl ?_
  refine k_iload_n rfl rfl ?_
  refine k_if_lt rfl (fun c1 => ?_) (fun c1 => ?_)
  · refine k_iconst (v := nI 0) rfl (by decide) ?_
    refine k_zret rfl rfl (by decide) (Nat.le_refl _) (Nat.le_refl _) ?_
    rw [show (nI 0 : Int32) = bI (isc (hp_i h m 6) c) from by simp [isc, bI, nI, Int32.not_le.mpr c1]]; exact hQ
  · refine k_iload_n rfl rfl ?_
    refine k_aload_n rfl rfl ?_
    refine k_gI rfl rfl (sr_o S) rfl ?_
    refine k_icmp_ge rfl (fun c9 => ?_) (fun c9 => ?_)
    · refine k_iconst (v := nI 0) rfl (by decide) ?_
      refine k_zret rfl rfl (by decide) (Nat.le_refl _) (Nat.le_refl _) ?_
      rw [show (nI 0 : Int32) = bI (isc (hp_i h m 6) c) from by simp [isc, bI, nI, Int32.not_lt.mpr c9]]; exact hQ
    · refine k_iconst (v := nI 1) rfl (by decide) ?_
      refine k_goto rfl ?_
      refine k_zret rfl rfl (by decide) (Nat.le_refl _) (Nat.le_refl _) ?_
      rw [show (nI 1 : Int32) = bI (isc (hp_i h m 6) c) from by simp [isc, bI, nI, Int32.not_lt.mp c1, Int32.not_le.mp c9]]; exact hQ
/-- the first of n places that holds c -/
def plc (f : Nat → Int32) (c : Int32) : Nat → Nat → Option Nat
  | 0, _ => none
  | n + 1, i => if f i = c then some i else plc f c n (i + 1)
def plI (r : Option Nat) : Int32 := match r with
  | some k => nI k
  | none => -1
theorem c_R_place {g : Gx} {h : Hp} {m d : Nat} {Q : Option Value → Hp → Prop} (S : ShR g h m) (n : Nat) (hn : n ≤ 40) (hT : hp_i h m 1 = nI n) (c : Int32) (hQ : Q (some (.int (plI (plc (hp_i h (m + 1)) c n 0)))) h) : Ct g M_R_place d 0 0 [.ref m, .int c] h Q := by
  refine ct_of ok_R_place (by decide) (Nat.le_of_ble_eq_true rfl) [some (.ref m), some (.int c), none] rfl rfl ?_
  refine k_iconst (v := nI 0) rfl (by decide) ?_
  refine k_ist2 rfl rfl ?_
  suffices H : ∀ (q i : Nat), i + q = n → plc (hp_i h (m + 1)) c n 0 = plc (hp_i h (m + 1)) c q i → Om g M_R_place d Q h 2 [some (.ref m), some (.int c), some (.int (nI i))] [] from H n 0 (Nat.zero_add n) rfl
  intro q
  induction q with
  | zero =>
    intro i hi e
    refine k_iload_n rfl rfl ?_
    refine k_aload_n rfl rfl ?_
    refine k_gI rfl rfl (sr_o S) hT ?_
    refine kn_ge rfl (by omega) (by omega) (fun c7 => ?_) (fun c7 => ?_)
    · refine k_iconst (v := -1) rfl (by decide) ?_
      refine k_iret rfl rfl (Nat.le_refl _) (Nat.le_refl _) ?_
      rw [e] at hQ; exact hQ
    · exact absurd c7 (by omega)
  | succ q ih =>
    intro i hi e
    refine k_iload_n rfl rfl ?_
    refine k_aload_n rfl rfl ?_
    refine k_gI rfl rfl (sr_o S) hT ?_
    refine kn_ge rfl (by omega) (by omega) (fun c7 => ?_) (fun c7 => ?_)
    · exact absurd c7 (by omega)
    · refine k_aload_n rfl rfl ?_
      refine k_getR rfl rfl (sr_o S) (sr_cell S) ?_
      refine k_iload_n rfl rfl ?_
      refine k_iA rfl (sr_a1 S) rfl (by omega) (by decide) rfl ?_
      refine k_iload_n rfl rfl ?_
      refine k_icmp_ne rfl (fun c17 => ?_) (fun c17 => ?_)
      · refine k_incN2 rfl rfl ?_
        refine k_goto rfl ?_
        exact ih (i + 1) (by omega) (by rw [e]; simp only [plc]; rw [if_neg c17])
      · refine k_iload_n rfl rfl ?_
        refine k_iret rfl rfl (Nat.le_refl _) (Nat.le_refl _) ?_
        rw [e] at hQ; simp only [plc] at hQ; rw [if_pos c17] at hQ; exact hQ
theorem c_R_changed {g : Gx} {h : Hp} {m d : Nat} {Q : Option Value → Hp → Prop} (S : ShR g h m) (hQ : ∀ h1, hp_fr (fun a => a = m + 7) h h1 → hp_r h1 = hp_r h → (∀ j, j < 160 → hp_i h1 (m + 7) j = 0) → Q none h1) : Ct g M_R_changed d 0 0 [.ref m] h Q := by
  refine ct_of ok_R_changed (by decide) (Nat.le_of_ble_eq_true rfl) [some (.ref m), none] rfl rfl ?_
  refine k_iconst (v := nI 0) rfl (by decide) ?_
  refine k_ist1 rfl rfl ?_
  suffices H : ∀ (q i : Nat) (h1 : Hp), i + q = 160 → hp_fr (fun a => a = m + 7) h h1 → hp_r h1 = hp_r h → (∀ j, j < i → hp_i h1 (m + 7) j = 0) → Om g M_R_changed d Q h1 2 [some (.ref m), some (.int (nI i))] [] from H 160 0 h rfl fr_rf rfl (fun j hj => absurd hj (Nat.not_lt_zero j))
  intro q
  induction q with
  | zero =>
    intro i h1 hi hF hr hz
    have S := sr_fr S hF (by rw [hr])
    refine k_iload_n rfl rfl ?_
    refine k_sipush (v := nI 160) rfl (by decide) ?_
    refine kn_ge rfl (by omega) (by omega) (fun c6 => ?_) (fun c6 => ?_)
    · refine k_vret rfl rfl (Nat.le_refl _) (Nat.le_refl _) ?_
      exact hQ h1 hF hr (fun j hj => hz j (by omega))
    · exact absurd c6 (by omega)
  | succ q ih =>
    intro i h1 hi hF hr hz
    have S := sr_fr S hF (by rw [hr])
    refine k_iload_n rfl rfl ?_
    refine k_sipush (v := nI 160) rfl (by decide) ?_
    refine kn_ge rfl (by omega) (by omega) (fun c6 => ?_) (fun c6 => ?_)
    · exact absurd c6 (by omega)
    · refine k_aload_n rfl rfl ?_
      refine k_getR rfl rfl (sr_o S) (sr_plan S) ?_
      refine k_iload_n rfl rfl ?_
      refine k_iconst (v := nI 0) rfl (by decide) ?_
      refine k_iS rfl (sr_a7 S) rfl (by omega) (by decide) ?_
      refine k_incN1 rfl rfl ?_
      refine k_goto rfl ?_
      refine ih (i + 1) _ (by omega) (fr_tr hF (fr_ui rfl)) hr (fun j hj => ?_)
      rw [i_ui]
      by_cases e : j = i
      · rw [if_pos ⟨rfl, e⟩]; rfl
      · rw [if_neg (fun z => e z.2)]; exact hz j (by omega)
