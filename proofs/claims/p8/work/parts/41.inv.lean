theorem Inv_zero {s : St} (I : Inv s) : Inv (zeroP s) := Inv_pl I (fun _ _ _ _ => Nat.zero_le _)
theorem Inv_th {s : St} (I : Inv s) : Inv (thS s).2 := by
  unfold thS
  have h := v_things I
  split
  · exact I
  · refine Inv_zero ?_
    exact ⟨v_told (s := s) I, v_lkr (s := s) I, ⟨show 1 ≤ s_things s + 1 by omega, show s_things s + 1 ≤ 4 by omega⟩, v_lks (s := s) I, v_cells (s := s) I, v_num (s := s) I, v_ord (s := s) I, v_ar (s := s) I, v_cn (s := s) I, v_rt (s := s) I, v_hr (s := s) I, v_pl (s := s) I, v_ld (s := s) I, v_log (s := s) I, v_seen (s := s) I, v_ab (s := s) I, v_bl (s := s) I⟩
theorem Inv_sp {s : St} (I : Inv s) (a b : Int64) : Inv (spS s a b).2 := by
  unfold spS
  split
  · exact I
  · next z =>
    simp only [not_or] at z
    obtain ⟨z1, z2, z3, z4⟩ := z
    have y5 : ¬ b < 0 := nneg (b := 1) (by decide) (by rw [← lN1]; exact z3)
    have h1 : LN b ≤ 100 := LN_le y5 (by decide) (by rw [← lN100]; exact z4)
    have h2 : LN a ≤ LN b := LN_le z1 (LN_of y5).2 (by rw [← (LN_of y5).1]; exact z2)
    refine Inv_zero ?_
    exact ⟨v_told (s := s) I, v_lkr (s := s) I, v_things (s := s) I, v_lks (s := s) I, v_cells (s := s) I, v_num (s := s) I, v_ord (s := s) I, v_ar (s := s) I, v_cn (s := s) I, v_rt (s := s) I, v_hr (s := s) I, v_pl (s := s) I, v_ld (s := s) I, v_log (s := s) I, v_seen (s := s) I, (show LN a ≤ LN b from h2), (show LN b ≤ 100 from h1)⟩
theorem Inv_bd {s : St} (I : Inv s) (f : Nat → Nat → Bool) : Inv (w_bd s f) := ⟨v_told (s := s) I, v_lkr (s := s) I, v_things (s := s) I, v_lks (s := s) I, v_cells (s := s) I, v_num (s := s) I, v_ord (s := s) I, v_ar (s := s) I, v_cn (s := s) I, v_rt (s := s) I, v_hr (s := s) I, v_pl (s := s) I, v_ld (s := s) I, v_log (s := s) I, v_seen (s := s) I, v_ab (s := s) I, v_bl (s := s) I⟩
theorem Inv_rs {s : St} (I : Inv s) (l f t : Int32) : Inv (rsS s l f t).2 := by
  unfold rsS
  cases (isc (nI (s_lkr s)) l && decide (0 ≤ f) && decide (f < t) && decide (t ≤ nI 24))
  · exact I
  · exact Inv_zero (Inv_bd I _)
theorem Inv_br {s : St} (I : Inv s) (l q : Int32) : Inv (brS s l q).2 := by
  unfold brS
  cases isc (nI 24) q
  · exact I
  · exact Inv_rs I _ _ _
theorem Inv_se {s : St} (I : Inv s) (c b : Int32) : Inv (seS s c b).2 := by
  unfold seS
  cases hp : plS s c with
  | none => exact I
  | some k =>
    have hk := plS_lt hp
    have hn := v_num I k hk
    simp only
    cases (isc (nI (s_lkr s)) b && (s_seen s).isNone && !(decide (s_ld s b.toNatClampNeg k = 0)) && !(decide (s_cn s 0 k = 0)))
    · exact I
    · refine Inv_zero ?_
      exact ⟨v_told (s := s) I, v_lkr (s := s) I, v_things (s := s) I, v_lks (s := s) I, v_cells (s := s) I, v_num (s := s) I, v_ord (s := s) I, v_ar (s := s) I, v_cn (s := s) I, v_rt (s := s) I, v_hr (s := s) I, v_pl (s := s) I, v_ld (s := s) I, v_log (s := s) I, (fun c hc => by have e : s_num s k = c := Option.some.inj hc; rw [← e]; exact hn), v_ab (s := s) I, v_bl (s := s) I⟩
theorem up_lt {f : Nat → Nat} {n v : Nat} {P : Nat → Prop} (h : ∀ l, l < n → P (f l)) (hv : P v) : ∀ l, l < n + 1 → P (va_up f n v l) := fun l hl => by
  by_cases e : l = n
  · rw [e, va_up_self]; exact hv
  · rw [va_up_ne _ _ e]; exact h l (by omega)
theorem Inv_lr {s : St} (I : Inv s) (a b : Int64) (q : Int32) : Inv (lrS s a b q).2 := by
  unfold lrS
  split
  · exact I
  · next z =>
    simp only [not_or] at z
    obtain ⟨z1, z2, z3, z4, z5, z6, z7, z8, z9⟩ := z
    have bL := v_lkr I
    have ya : ¬ a < 0 := nneg (b := 1) (by decide) (by rw [← lN1]; exact z3)
    have yb : ¬ b < 0 := nneg (b := 1) (by decide) (by rw [← lN1]; exact z5)
    have ha1 : 1 ≤ LN a := LN_ge (by decide) ya (by rw [← lN1]; exact z3)
    have hb1 : 1 ≤ LN b := LN_ge (by decide) yb (by rw [← lN1]; exact z5)
    have ha2 : LN a ≤ 1000 := LN_le ya (by decide) (by rw [← lN1000]; exact z4)
    have hb2 : LN b ≤ 1000 := LN_le yb (by decide) (by rw [← lN1000]; exact z6)
    have hab0 : 1 ≤ LN a * LN b := Nat.mul_pos ha1 hb1
    have hab2 : LN a * LN b ≤ 1000 * 1000 := Nat.mul_le_mul ha2 hb2
    have eab : a * b = lN (LN a * LN b) := by
      conv => lhs; rw [(LN_of ya).1, (LN_of yb).1]
      rw [lN_mul]
    have hab1 : LN a * LN b ≤ 1000 := by
      rw [eab, lN1000] at z7
      exact Nat.not_lt.mp (fun y => z7 ((pk_lLT (by decide) (by omega)).mpr y))
    have zq : ¬ q < 0 := fun y => z8 (Int32.lt_trans y (by decide))
    obtain ⟨q0, hq0, eq0⟩ := nI_of zq
    have ecl : q.toNatClampNeg = q0 := by rw [eq0]; exact nI_clamp hq0
    have hq1 : 1 ≤ q0 := by
      rw [eq0, ← nI_one] at z8
      exact Nat.not_lt.mp (fun y => z8 (nI_lt y (by decide)))
    have hq2 : q0 ≤ 24 := by
      rw [eq0, n24] at z9
      exact Nat.not_lt.mp (fun y => z9 (nI_lt y hq0))
    rw [ecl]
    refine Inv_zero ?_
    exact ⟨v_told (s := s) I, (show s_lkr s + 1 ≤ 4 by omega), v_things (s := s) I, v_lks (s := s) I, v_cells (s := s) I, v_num (s := s) I, v_ord (s := s) I, v_ar (s := s) I, v_cn (s := s) I, (up_lt (P := fun v => 1 ≤ v ∧ v ≤ 1000) (v_rt I) ⟨hab0, hab1⟩), (up_lt (P := fun v => 1 ≤ v ∧ v ≤ 24) (v_hr I) ⟨hq1, hq2⟩), v_pl (s := s) I, v_ld (s := s) I, (fun y hy => ⟨Nat.lt_succ_of_lt (v_log I y hy).1, (v_log I y hy).2⟩), v_seen (s := s) I, v_ab (s := s) I, v_bl (s := s) I⟩
theorem Inv_lk {s : St} (I : Inv s) (l c : Int32) (q t : Int64) : Inv (lkS s l c q t).2 := by
  unfold lkS
  cases hp : plS s c with
  | none => exact I
  | some k =>
    simp only
    split
    · exact I
    · next z =>
      simp only [not_or] at z
      obtain ⟨z1, z2, z3, z4, z5, z6⟩ := z
      have hk := plS_lt hp
      have bL := v_lkr I
      have bK := v_lks I
      have hn := v_num I k hk
      have z1 : isc (nI (s_lkr s)) l = true := by simpa using z1
      obtain ⟨l0, hl0, el, ecl⟩ := isc_of (by omega) z1
      have yq : ¬ q < 0 := nneg (b := 1) (by decide) (by rw [← lN1]; exact z4)
      have hq1 : 1 ≤ LN q := LN_ge (by decide) yq (by rw [← lN1]; exact z4)
      have hq2 : LN q ≤ 100 := LN_le yq (by decide) (by rw [← lN100]; exact z5)
      have ht := (LN_of z6).2
      rw [ecl]
      exact ⟨v_told (s := s) I, v_lkr (s := s) I, v_things (s := s) I, (show s_lks s + 1 ≤ 200 by omega), v_cells (s := s) I, v_num (s := s) I, v_ord (s := s) I, v_ar (s := s) I, v_cn (s := s) I, v_rt (s := s) I, v_hr (s := s) I, v_pl (s := s) I, (fun l1 k1 h1 h2 => by
        have h3 := v_ld I l1 k1 h1 h2
        show ldU s l0 k (LN q) l1 k1 ≤ 100 * (s_lks s + 1)
        unfold ldU
        split <;> omega), (fun y hy => by
        have hy : y < s_lks s + 1 := hy
        show va_up (s_gl s) (s_lks s) l0 y < s_lkr s ∧ va_up (s_gc s) (s_lks s) (s_num s k) y < s_cells s ∧ 1 ≤ va_up (s_gh s) (s_lks s) (LN q) y ∧ va_up (s_gh s) (s_lks s) (LN q) y ≤ 100 ∧ va_up (s_gt s) (s_lks s) (LN t) y < 2 ^ 63
        by_cases e : y = s_lks s
        · rw [e, va_up_self, va_up_self, va_up_self, va_up_self]; exact ⟨hl0, hn, hq1, hq2, ht⟩
        · rw [va_up_ne _ _ e, va_up_ne _ _ e, va_up_ne _ _ e, va_up_ne _ _ e]; exact v_log I y (by omega)), v_seen (s := s) I, v_ab (s := s) I, v_bl (s := s) I⟩
theorem dnF_hi {f : Nat → Nat} {c : Nat} : ∀ n i, dnF f c n ≤ i → i < n → c < f i
  | 0, i, _, h => absurd h (Nat.not_lt_zero _)
  | n + 1, i, h, h2 => by
    simp only [dnF] at h
    split at h
    · next z =>
      by_cases e : i = n
      · rw [e]; exact z
      · exact dnF_hi n i h (by omega)
    · omega
theorem dnF_lo {f : Nat → Nat} {c : Nat} : ∀ n, 0 < dnF f c n → f (dnF f c n - 1) ≤ c
  | 0, h => absurd h (Nat.lt_irrefl _)
  | n + 1, h => by
    simp only [dnF] at h ⊢
    by_cases z : c < f n
    · rw [if_pos z] at h ⊢; exact dnF_lo n h
    · rw [if_neg z]; show f n ≤ c; omega
theorem Inv_tl {s : St} (I : Inv s) {c : Int32} (hc : isc (nI (s_cells s)) c = true) (hro : ¬ (plS s c = none ∧ s_told s = 40)) : Inv (tlS s c).2 ∧ (tlS s c).1 < s_told (tlS s c).2 := by
  have bT := v_told I
  have hcb := v_cells I
  unfold tlS
  cases hp : plS s c with
  | some k => exact ⟨I, plS_lt hp⟩
  | none =>
    have hT : s_told s < 40 := by
      refine Nat.lt_of_le_of_ne bT (fun z => hro ⟨hp, z⟩)
    obtain ⟨c0, hc0, ec, ecl⟩ := isc_of (by omega) hc
    simp only
    rw [ecl]
    obtain ⟨k, ek⟩ : ∃ k, k = dnF (s_num s) c0 (s_told s) := ⟨_, rfl⟩
    have hk := dnF_le (s_num s) c0 (s_told s)
    have hhi := dnF_hi (f := s_num s) (c := c0) (s_told s)
    have hlo := dnF_lo (f := s_num s) (c := c0) (s_told s)
    rw [← ek] at hk hhi hlo ⊢
    have hne : ∀ i, i < s_told s → s_num s i ≠ c0 := fun i hi e => by
      refine plc_none _ _ hp i (Nat.zero_le _) (by omega) ?_
      show nI (s_num s i) = c
      rw [e, ec]
    have hlo2 : ∀ i, i < k → s_num s i < c0 := fun i hi => by
      have h1 := hlo (by omega)
      have h2 := hne (k - 1) (by omega)
      by_cases e : i = k - 1
      · rw [e]; omega
      · have := v_ord I i (k - 1) (by omega) (by omega); omega
    have ins : ∀ (P : Nat → Prop) (f : Nat → Nat) (v : Nat), (∀ i, i < s_told s → P (f i)) → P v → ∀ i, i < s_told s + 1 → P (insN f k v i) := fun P f v h1 h2 i hi => by
      rcases Nat.lt_trichotomy i k with z | z | z
      · rw [insN_lt z]; exact h1 i (by omega)
      · rw [z, insN_eq]; exact h2
      · rw [insN_gt z]; exact h1 (i - 1) (by omega)
    refine ⟨?_, show k < s_told s + 1 by omega⟩
    exact ⟨(show s_told s + 1 ≤ 40 by omega), v_lkr (s := s) I, v_things (s := s) I, v_lks (s := s) I, v_cells (s := s) I, (ins (fun v => v < s_cells s) _ _ (v_num I) hc0), (fun i j h1 h2 => by
      have h2 : j < s_told s + 1 := h2
      show insN (s_num s) k c0 i < insN (s_num s) k c0 j
      rcases Nat.lt_trichotomy i k with z | z | z
      · rw [insN_lt z]
        rcases Nat.lt_trichotomy j k with y | y | y
        · rw [insN_lt y]; exact v_ord I i j h1 (by omega)
        · rw [y, insN_eq]; exact hlo2 i z
        · rw [insN_gt y]
          have a1 := hlo2 i z
          have a2 := hhi (j - 1) (by omega) (by omega)
          omega
      · rw [z, insN_eq, insN_gt (by omega)]; exact hhi (j - 1) (by omega) (by omega)
      · rw [insN_gt z, insN_gt (by omega)]; exact v_ord I (i - 1) (j - 1) (by omega) (by omega)), (ins (fun v => 0 < v ∧ v ∣ 720) _ _ (v_ar I) ⟨by decide, by decide⟩), (fun t i ht hi => ins (fun v => v ≤ 1000) (s_cn s t) 0 (fun j hj => v_cn I t j ht hj) (Nat.zero_le _) i hi), v_rt (s := s) I, v_hr (s := s) I, v_pl (s := s) I, (fun l i hl hi => ins (fun v => v ≤ 100 * s_lks s) (s_ld s l) 0 (fun j hj => v_ld I l j hl hj) (Nat.zero_le _) i hi), v_log (s := s) I, v_seen (s := s) I, v_ab (s := s) I, v_bl (s := s) I⟩
theorem Inv_cu {s : St} (I : Inv s) (t c : Int32) (n : Int64) : Inv (cuS s t c n).2 := by
  unfold cuS
  split
  · exact I
  · next z =>
    simp only [not_or] at z
    obtain ⟨z1, z2, z3, z4, z5, z6, z7⟩ := z
    have z3 : isc (nI (s_cells s)) c = true := by simpa using z3
    obtain ⟨J, hk⟩ := Inv_tl I z3 z7
    have hn : LN n ≤ 1000 := LN_le z5 (by decide) (by rw [← lN1000]; exact z6)
    refine Inv_zero ?_
    exact ⟨v_told (s := (tlS s c).2) J, v_lkr (s := (tlS s c).2) J, v_things (s := (tlS s c).2) J, v_lks (s := (tlS s c).2) J, v_cells (s := (tlS s c).2) J, v_num (s := (tlS s c).2) J, v_ord (s := (tlS s c).2) J, v_ar (s := (tlS s c).2) J, (fun t1 k1 h1 h2 => by
      show cnU (tlS s c).2 t.toNatClampNeg (tlS s c).1 (LN n) t1 k1 ≤ 1000
      unfold cnU
      split
      · exact hn
      · exact v_cn J t1 k1 h1 h2), v_rt (s := (tlS s c).2) J, v_hr (s := (tlS s c).2) J, v_pl (s := (tlS s c).2) J, v_ld (s := (tlS s c).2) J, v_log (s := (tlS s c).2) J, v_seen (s := (tlS s c).2) J, v_ab (s := (tlS s c).2) J, v_bl (s := (tlS s c).2) J⟩
theorem Inv_ar {s : St} (I : Inv s) (c : Int32) (n : Int64) : Inv (arS s c n).2 := by
  unfold arS
  split
  · exact I
  · next z =>
    simp only [not_or] at z
    obtain ⟨z1, z2, z3, z4, z5, z6⟩ := z
    have z1 : isc (nI (s_cells s)) c = true := by simpa using z1
    have z5 : 720 % LN n = 0 := Decidable.not_not.mp z5
    obtain ⟨J, hk⟩ := Inv_tl I z1 z6
    have y0 : ¬ n < 0 := nneg (b := 1) (by decide) (by rw [← lN1]; exact z3)
    have hn1 : 1 ≤ LN n := LN_ge (by decide) y0 (by rw [← lN1]; exact z3)
    refine Inv_zero ?_
    exact ⟨v_told (s := (tlS s c).2) J, v_lkr (s := (tlS s c).2) J, v_things (s := (tlS s c).2) J, v_lks (s := (tlS s c).2) J, v_cells (s := (tlS s c).2) J, v_num (s := (tlS s c).2) J, v_ord (s := (tlS s c).2) J, (fun k1 h1 => by
      show 0 < va_up (s_ar (tlS s c).2) (tlS s c).1 (LN n) k1 ∧ va_up (s_ar (tlS s c).2) (tlS s c).1 (LN n) k1 ∣ 720
      by_cases e : k1 = (tlS s c).1
      · rw [e, va_up_self]; exact ⟨hn1, Nat.dvd_of_mod_eq_zero z5⟩
      · rw [va_up_ne _ _ e]; exact v_ar J k1 h1), v_cn (s := (tlS s c).2) J, v_rt (s := (tlS s c).2) J, v_hr (s := (tlS s c).2) J, v_pl (s := (tlS s c).2) J, v_ld (s := (tlS s c).2) J, v_log (s := (tlS s c).2) J, v_seen (s := (tlS s c).2) J, v_ab (s := (tlS s c).2) J, v_bl (s := (tlS s c).2) J⟩
theorem shF_le {s : St} : ∀ (q B : Nat) (F : Nat → Nat → Nat), (∀ l k, F l k ≤ B) → ∀ l k, shF s q F l k ≤ B + q
  | 0, _, _, h, l, k => h l k
  | q + 1, B, F, h, l, k => by
    simp only [shF]
    cases bst s F with
    | none => exact Nat.le_trans (h l k) (by omega)
    | some j =>
      have := shF_le (s := s) q (B + 1) (bmp F (j / 40) (j % 40)) (bmp_le h) l k
      simp only
      omega
theorem Inv_sh {s : St} (I : Inv s) (n : Int32) : Inv (shS s n).2 := by
  unfold shS
  split
  · exact I
  · next z =>
    simp only [not_or] at z
    obtain ⟨k, hk, e⟩ := nI_of z.1
    have h1 : k ≤ 100 := by
      have z2 := z.2
      rw [e] at z2
      exact Nat.not_lt.mp (fun y => z2 (nI_lt y hk))
    have e2 : n.toNatClampNeg = k := by rw [e]; exact nI_clamp hk
    rw [e2]
    refine Inv_pl I (fun l k1 _ _ => ?_)
    have := shF_le (s := s) k 0 (fun _ _ => 0) (fun _ _ => Nat.le_refl _) l k1
    omega
