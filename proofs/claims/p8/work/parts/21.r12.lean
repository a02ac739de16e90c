theorem szN_le {s : St} (I : Inv s) : ∀ l, l ≤ s_lkr s → szN s l ≤ l * 4000
  | 0, _ => by simp [szN]
  | l + 1, h => by
    have bT := v_told I
    have bL := v_lkr I
    have h1 := szN_le I l (by omega)
    have h2 : gv (s_pl s) l (s_told s) ≤ s_told s * 100 := gv_le _ (fun k hk => v_pl I l k (by omega) (by omega))
    simp only [szN]; omega
/-- tried: no other way finds more -/
def trS (s : St) (b : Bool) : Prop := b = true ↔ s_told s * s_lkr s ≤ 12 ∧ szN s (s_lkr s) ≤ 5 ∧ ¬ (0 < s_told s * s_lkr s ∧ ∃ T, cmpT (s_told s * s_lkr s) (szN s (s_lkr s)) T ∧ okT s (wo s (s_pl s) (s_told s)) T)
theorem c_R_tried {g : Gx} {h : Hp} {m d : Nat} {s : St} {Q : Option Value → Hp → Prop} (P : PR g h m s) (I : Inv s) (hQ : ∀ (h1 : Hp) (b : Bool), hp_fr (inR m) h h1 → PR g h1 m s → trS s b → Q (some (.int (bI b))) h1) : Ct g M_R_tried (d + 3) 0 0 [.ref m] h Q := by
  have S := pr_S P
  have bT := v_told I
  have bL := v_lkr I
  refine ct_of ok_R_tried (by decide) (Nat.le_of_ble_eq_true rfl) [some (.ref m), none, none, none, none] rfl rfl ?_
  have hslb : s_told s * s_lkr s ≤ 160 := Nat.le_trans (Nat.mul_le_mul bT bL) (by decide)
  have hsz := szN_le I (s_lkr s) (Nat.le_refl _)
  have hwo := wo_le I (s_pl s) (s_told s) (Nat.le_refl _)
  refine k_aload_n rfl rfl ?_
  refine k_gI rfl rfl (sr_o S) (pr_told P) ?_
  refine k_aload_n rfl rfl ?_
  refine k_gI rfl rfl (sr_o S) (pr_lkr P) ?_
  refine k_imulN rfl ?_
  refine k_ist1 rfl rfl ?_
  refine k_aload_n rfl rfl ?_
  refine k_cV0 rfl cw_R_size wd_528 (sr_o S) rfl (by decide) (Nat.le_of_ble_eq_true rfl) ?_
  refine c_R_size P I ?_
  refine k_ist2 rfl rfl ?_
  refine k_iload_n rfl rfl ?_
  refine k_bipush (v := nI 12) rfl (by decide) ?_
  refine kn_gt rfl (by omega) (by omega) (fun c18 => ?_) (fun c18 => ?_)
  · refine k_iconst (v := nI 0) rfl (by decide) ?_
    refine k_zret rfl rfl (by decide) (Nat.le_refl _) (Nat.le_refl _) ?_
    exact hQ h false fr_rf P ⟨fun z => (by cases z), fun z => absurd z.1 (by omega)⟩
  · refine k_iload_n rfl rfl ?_
    refine k_iconst (v := nI 5) rfl (by decide) ?_
    refine kn_le rfl (by omega) (by omega) (fun c23 => ?_) (fun c23 => ?_)
    · refine k_aload_n rfl rfl ?_
      refine k_aload_n rfl rfl ?_
      refine k_getR rfl rfl (sr_o S) (sr_plan S) ?_
      refine k_cV1 rfl cw_R_worth wd_507 (sr_o S) rfl (by decide) (Nat.le_of_ble_eq_true rfl) ?_
      refine c_R_worth (F := s_pl s) P I (sr_a7 S) (fun l k h1 h2 => pr_pl P l k (by omega) (by omega)) (fun l k h1 h2 => by have := v_pl I l k (by omega) (by omega); omega) ?_
      refine k_lst3 rfl rfl ?_
      refine k_aload_n rfl rfl ?_
      refine k_iload_n rfl rfl ?_
      refine k_iload_n rfl rfl ?_
      refine k_lload_n rfl rfl ?_
      refine k_cV3 rfl cw_R_isBetter wd_540 (sr_o S) rfl (by decide) (Nat.le_of_ble_eq_true rfl) ?_
      refine c_R_isBetter P I rfl c23 (by omega) (fun h1 b x1 P1 hb => ?_)
      refine kb_ne rfl (fun c44 => ?_) (fun c44 => ?_)
      · refine k_iconst (v := nI 0) rfl (by decide) ?_
        refine k_zret rfl rfl (by decide) (Nat.le_refl _) (Nat.le_refl _) ?_
        exact hQ h1 false x1 P1 ⟨fun z => (by cases z), fun z => absurd (hb.mp c44) z.2.2⟩
      · refine k_iconst (v := nI 1) rfl (by decide) ?_
        refine k_goto rfl ?_
        refine k_zret rfl rfl (by decide) (Nat.le_refl _) (Nat.le_refl _) ?_
        exact hQ h1 true x1 P1 ⟨fun _ => ⟨by omega, c23, fun z => by have := hb.mpr z; rw [c44] at this; cases this⟩, fun _ => rfl⟩
    · refine k_iconst (v := nI 0) rfl (by decide) ?_
      refine k_zret rfl rfl (by decide) (Nat.le_refl _) (Nat.le_refl _) ?_
      exact hQ h false fr_rf P ⟨fun z => (by cases z), fun z => absurd z.2.1 (by omega)⟩
/-! BUILDING: an object at a of class c; its arrays come behind it, the i-th of type (KT i).1, length (KT i).2.1, into the field (KT i).2.2 -/
def old (a : Nat) (h h1 : Hp) : Prop := ∀ x, x < a → hp_k h1 x = hp_k h x ∧ hp_l h1 x = hp_l h x ∧ (∀ q, hp_i h1 x q = hp_i h x q) ∧ (∀ q, hp_j h1 x q = hp_j h x q) ∧ ∀ q, hp_r h1 x q = hp_r h x q
def Bd (g : Gx) (h : Hp) (a c : Nat) (KT : Nat → Nat × Nat × Nat) (fi : Nat → Int32) (fj : Nat → Int64) (fr : Nat → Option Nat) (j : Nat) (h1 : Hp) : Prop :=
  hp_n h1 = a + 1 + j ∧ isO g h1 a c ∧ old a h h1 ∧ (∀ i, i < j → isA g h1 (a + 1 + i) (KT i).1 (KT i).2.1 ∧ (∀ q, hp_i h1 (a + 1 + i) q = 0) ∧ ∀ q, hp_j h1 (a + 1 + i) q = 0) ∧ hp_i h1 a = fi ∧ hp_j h1 a = fj ∧ hp_r h1 a = fr
theorem k_hn {h : Hp} {kd : Nat ⊕ Nat} {len x : Nat} (e : x ≠ hp_n h) : hp_k (hp_new h kd len) x = hp_k h x := va_up_ne _ _ e
theorem l_hn {h : Hp} {kd : Nat ⊕ Nat} {len x : Nat} (e : x ≠ hp_n h) : hp_l (hp_new h kd len) x = hp_l h x := va_up_ne _ _ e
theorem i_hn {h : Hp} {kd : Nat ⊕ Nat} {len x q : Nat} (e : x ≠ hp_n h) : hp_i (hp_new h kd len) x q = hp_i h x q := if_neg e
theorem j_hn {h : Hp} {kd : Nat ⊕ Nat} {len x q : Nat} (e : x ≠ hp_n h) : hp_j (hp_new h kd len) x q = hp_j h x q := if_neg e
theorem r_hn {h : Hp} {kd : Nat ⊕ Nat} {len x q : Nat} (e : x ≠ hp_n h) : hp_r (hp_new h kd len) x q = hp_r h x q := if_neg e
theorem O_hn {g : Gx} {h : Hp} {kd : Nat ⊕ Nat} {len x c : Nat} (o : isO g h x c) : isO g (hp_new h kd len) x c := ⟨o.1, Nat.lt_succ_of_lt o.2.1, (k_hn (Nat.ne_of_lt o.2.1)).trans o.2.2⟩
theorem A_hn {g : Gx} {h : Hp} {kd : Nat ⊕ Nat} {len x t n : Nat} (o : isA g h x t n) : isA g (hp_new h kd len) x t n := ⟨o.1, Nat.lt_succ_of_lt o.2.1, (k_hn (Nat.ne_of_lt o.2.1)).trans o.2.2.1, (l_hn (Nat.ne_of_lt o.2.1)).trans o.2.2.2⟩
theorem old_rf {a : Nat} {h : Hp} : old a h h := fun _ _ => ⟨rfl, rfl, fun _ => rfl, fun _ => rfl, fun _ => rfl⟩
theorem old_tr {a : Nat} {h h1 h2 : Hp} (x : old a h h1) (y : old a h1 h2) : old a h h2 := fun q hq => ⟨(y q hq).1.trans (x q hq).1, (y q hq).2.1.trans (x q hq).2.1, fun z => ((y q hq).2.2.1 z).trans ((x q hq).2.2.1 z), fun z => ((y q hq).2.2.2.1 z).trans ((x q hq).2.2.2.1 z), fun z => ((y q hq).2.2.2.2 z).trans ((x q hq).2.2.2.2 z)⟩
theorem old_hn {a : Nat} {h : Hp} {kd : Nat ⊕ Nat} {len : Nat} (e : a ≤ hp_n h) : old a h (hp_new h kd len) := fun x hx => ⟨k_hn (by omega), l_hn (by omega), fun _ => i_hn (by omega), fun _ => j_hn (by omega), fun _ => r_hn (by omega)⟩
theorem old_ui {a : Nat} {h : Hp} {b k : Nat} {v : Int32} (e : a ≤ b) : old a h (hp_ui h b k v) := fun x hx => ⟨rfl, rfl, fun _ => up2_a (by omega), fun _ => rfl, fun _ => rfl⟩
theorem old_uj {a : Nat} {h : Hp} {b k : Nat} {v : Int64} (e : a ≤ b) : old a h (hp_uj h b k v) := fun x hx => ⟨rfl, rfl, fun _ => rfl, fun _ => up2_a (by omega), fun _ => rfl⟩
theorem old_ur {a : Nat} {h : Hp} {b k : Nat} {v : Option Nat} (e : a ≤ b) : old a h (hp_ur h b k v) := fun x hx => ⟨rfl, rfl, fun _ => rfl, fun _ => rfl, fun _ => up2_a (by omega)⟩
theorem Bd_0 {g : Gx} {h : Hp} {a c : Nat} {KT : Nat → Nat × Nat × Nat} (hn : hp_n h = a + 1) (ho : isO g h a c) : Bd g h a c KT (hp_i h a) (hp_j h a) (hp_r h a) 0 h := ⟨by rw [hn], ho, old_rf, fun i hi => absurd hi (Nat.not_lt_zero i), rfl, rfl, rfl⟩
theorem Bd_a {g : Gx} {h h1 : Hp} {a c j t len k : Nat} {KT : Nat → Nat × Nat × Nat} {fi : Nat → Int32} {fj : Nat → Int64} {fr : Nat → Option Nat} (B : Bd g h a c KT fi fj fr j h1) (e : KT j = (t, len, k)) : Bd g h a c KT fi fj (va_up fr k (some (a + 1 + j))) (j + 1) (hp_ur (hp_new h1 (.inr t) len) a k (some (hp_n h1))) := by
  obtain ⟨b1, b2, b3, b4, b5, b6, b7⟩ := B
  have hB : gx_B g ≤ a := b2.1
  refine ⟨by show hp_n h1 + 1 = _; rw [b1]; omega, O_hn (len := len) b2, old_tr b3 (old_tr (old_hn (by omega)) (old_ur (Nat.le_refl _))), fun i hi => ?_, ?_, ?_, ?_⟩
  · by_cases q : i = j
    · subst q
      rw [e, ← b1]
      refine ⟨⟨by omega, Nat.lt_succ_self _, va_up_self _ _ _, va_up_self _ _ _⟩, fun q => ?_, fun q => ?_⟩
      · show (if hp_n h1 = h1.1 then (0 : Int32) else _) = 0
        exact if_pos rfl
      · show (if hp_n h1 = h1.1 then (0 : Int64) else _) = 0
        exact if_pos rfl
    · obtain ⟨c1, c2, c3⟩ := b4 i (by omega)
      exact ⟨A_hn (kd := .inr t) (len := len) c1, fun q => (i_hn (kd := .inr t) (len := len) (by omega)).trans (c2 q), fun q => (j_hn (kd := .inr t) (len := len) (by omega)).trans (c3 q)⟩
  · rw [← b5]; funext q; exact i_hn (kd := .inr t) (len := len) (by omega)
  · rw [← b6]; funext q; exact j_hn (kd := .inr t) (len := len) (by omega)
  · funext q
    show up2 _ a k _ a q = _
    unfold up2 va_up
    by_cases z : q = k
    · rw [if_pos ⟨rfl, z⟩, if_pos z, b1]
    · rw [if_neg (fun y => z y.2), if_neg z, ← b7]
      exact r_hn (kd := .inr t) (len := len) (by omega)
theorem Bd_i {g : Gx} {h h1 : Hp} {a c j k : Nat} {v : Int32} {KT : Nat → Nat × Nat × Nat} {fi : Nat → Int32} {fj : Nat → Int64} {fr : Nat → Option Nat} (B : Bd g h a c KT fi fj fr j h1) : Bd g h a c KT (va_up fi k v) fj fr j (hp_ui h1 a k v) := by
  obtain ⟨b1, b2, b3, b4, b5, b6, b7⟩ := B
  refine ⟨b1, b2, old_tr b3 (old_ui (Nat.le_refl _)), fun i hi => ?_, ?_, b6, b7⟩
  · obtain ⟨c1, c2, c3⟩ := b4 i hi
    exact ⟨c1, fun q => (up2_a (by omega)).trans (c2 q), c3⟩
  · funext q
    show up2 _ a k _ a q = _
    unfold up2 va_up
    by_cases z : q = k
    · rw [if_pos ⟨rfl, z⟩, if_pos z]
    · rw [if_neg (fun y => z y.2), if_neg z, ← b5]; rfl
theorem Bd_r {g : Gx} {h h1 : Hp} {a c j k : Nat} {v : Option Nat} {KT : Nat → Nat × Nat × Nat} {fi : Nat → Int32} {fj : Nat → Int64} {fr : Nat → Option Nat} (B : Bd g h a c KT fi fj fr j h1) : Bd g h a c KT fi fj (va_up fr k v) j (hp_ur h1 a k v) := by
  obtain ⟨b1, b2, b3, b4, b5, b6, b7⟩ := B
  refine ⟨b1, b2, old_tr b3 (old_ur (Nat.le_refl _)), b4, b5, b6, ?_⟩
  funext q
  show up2 _ a k _ a q = _
  unfold up2 va_up
  by_cases z : q = k
  · rw [if_pos ⟨rfl, z⟩, if_pos z]
  · rw [if_neg (fun y => z y.2), if_neg z, ← b7]; rfl
def KTR : Nat → Nat × Nat × Nat := fun i => match i with
  | 0 => (0, 40, 2)
  | 1 => (0, 40, 3)
  | 2 => (0, 160, 4)
  | 3 => (0, 4, 7)
  | 4 => (0, 4, 8)
  | 5 => (2, 96, 9)
  | 6 => (0, 160, 10)
  | 7 => (0, 160, 11)
  | 8 => (0, 160, 12)
  | 9 => (0, 200, 14)
  | 10 => (0, 200, 15)
  | 11 => (0, 200, 16)
  | _ => (1, 200, 17)
/-- a new search over n cells -/
def iniS (n : Nat) : St := (n, 0, (fun _ => 0), (fun _ => 0), (fun _ _ => 0), 1, 0, (fun _ => 0), (fun _ => 0), (fun _ _ => false), (fun _ _ => 0), (fun _ _ => 0), 0, (fun _ => 0), (fun _ => 0), (fun _ => 0), (fun _ => 0), none, 0, 0)
def clmp (c : Int32) : Nat := if c < 1 then 1 else if 65536 < c then 65536 else c.toNatClampNeg
theorem Inv_ini {n : Nat} (h : 1 ≤ n ∧ n ≤ 65536) : Inv (iniS n) := by
  refine ⟨Nat.zero_le _, Nat.zero_le _, ⟨Nat.le_refl 1, (by decide : (1 : Nat) ≤ 4)⟩, Nat.zero_le _, h, fun k hk => absurd hk (Nat.not_lt_zero k), fun i k _ hk => absurd hk (Nat.not_lt_zero k), fun k hk => absurd hk (Nat.not_lt_zero k), fun t k _ hk => absurd hk (Nat.not_lt_zero k), fun k hk => absurd hk (Nat.not_lt_zero k), fun k hk => absurd hk (Nat.not_lt_zero k), fun _ _ _ _ => Nat.zero_le _, fun t k _ hk => absurd hk (Nat.not_lt_zero k), fun k hk => absurd hk (Nat.not_lt_zero k), fun c hc => (by cases hc), Nat.le_refl _, Nat.zero_le _⟩
theorem cl_of {c : Int32} (h : ¬ c < 1) : c = nI c.toNatClampNeg := by
  obtain ⟨k, hk, e⟩ := nI_of (x := c) (fun z => h (Int32.lt_trans z (by decide)))
  rw [e, nI_clamp hk]
theorem c_R_init {g : Gx} {h : Hp} {m d : Nat} {c : Int32} {Q : Option Value → Hp → Prop} (hn : hp_n h = m + 1) (ho : isO g h m 4) (hzi : ∀ q, hp_i h m q = 0) (hzj : ∀ q, hp_j h m q = 0) (hQ : ∀ h1, hp_n h1 = m + 14 → old m h h1 → PR g h1 m (iniS (clmp c)) → Q none h1) : Ct g M_R_init (d + 1) 13 1624 [.ref m, .int c] h Q := by
  refine ct_of ok_R_init (by decide) (Nat.le_of_ble_eq_true rfl) [some (.ref m), some (.int c)] rfl rfl ?_
  have B := Bd_0 (KT := KTR) hn ho
  have hb0 : hp_i h m = fun _ => 0 := funext hzi
  have hb1 : hp_j h m = fun _ => 0 := funext hzj
  rw [hb0, hb1] at B
  refine k_aload_n rfl rfl ?_
  refine k_objInit rfl wd_376 wd_13 wd_14 (Nat.le_of_ble_eq_true rfl) (by show _ + 12 ≤ 48 * (d + 1); simp only [List.map_nil, List.sum_nil]; omega) ?_
  refine k_aload_n rfl rfl ?_
  refine k_bipush (v := nI 40) rfl (by decide) ?_
  refine k_newa (t := 0) (len := 40) rfl rfl rfl rfl (by decide) wd_59 rfl (by decide) (Nat.le_of_ble_eq_true rfl) (Nat.le_of_ble_eq_true rfl) ?_
  refine k_putFR rfl rfl wd_380 rfl rfl rfl (O_hn B.2.1) ?_
  have B := Bd_a B (t := 0) (len := 40) (k := 2) rfl
  revert B
  generalize hp_ur _ m 2 _ = h1
  intro B
  refine k_aload_n rfl rfl ?_
  refine k_bipush (v := nI 40) rfl (by decide) ?_
  refine k_newa (t := 0) (len := 40) rfl rfl rfl rfl (by decide) wd_59 rfl (by decide) (Nat.le_of_ble_eq_true rfl) (Nat.le_of_ble_eq_true rfl) ?_
  refine k_putFR rfl rfl wd_381 rfl rfl rfl (O_hn B.2.1) ?_
  have B := Bd_a B (t := 0) (len := 40) (k := 3) rfl
  revert B
  generalize hp_ur _ m 3 _ = h2
  intro B
  refine k_aload_n rfl rfl ?_
  refine k_sipush (v := nI 160) rfl (by decide) ?_
  refine k_newa (t := 0) (len := 160) rfl rfl rfl rfl (by decide) wd_59 rfl (by decide) (Nat.le_of_ble_eq_true rfl) (Nat.le_of_ble_eq_true rfl) ?_
  refine k_putFR rfl rfl wd_382 rfl rfl rfl (O_hn B.2.1) ?_
  have B := Bd_a B (t := 0) (len := 160) (k := 4) rfl
  revert B
  generalize hp_ur _ m 4 _ = h3
  intro B
  refine k_aload_n rfl rfl ?_
  refine k_iconst (v := nI 1) rfl (by decide) ?_
  refine k_putI rfl rfl rfl B.2.1 ?_
  have B := Bd_i (k := 5) (v := nI 1) B
  revert B
  generalize hp_ui _ m 5 _ = g5
  intro B
  refine k_aload_n rfl rfl ?_
  refine k_iconst (v := nI 4) rfl (by decide) ?_
  refine k_newa (t := 0) (len := 4) rfl rfl rfl rfl (by decide) wd_59 rfl (by decide) (Nat.le_of_ble_eq_true rfl) (Nat.le_of_ble_eq_true rfl) ?_
  refine k_putFR rfl rfl wd_385 rfl rfl rfl (O_hn B.2.1) ?_
  have B := Bd_a B (t := 0) (len := 4) (k := 7) rfl
  revert B
  generalize hp_ur _ m 7 _ = h4
  intro B
  refine k_aload_n rfl rfl ?_
  refine k_iconst (v := nI 4) rfl (by decide) ?_
  refine k_newa (t := 0) (len := 4) rfl rfl rfl rfl (by decide) wd_59 rfl (by decide) (Nat.le_of_ble_eq_true rfl) (Nat.le_of_ble_eq_true rfl) ?_
  refine k_putFR rfl rfl wd_386 rfl rfl rfl (O_hn B.2.1) ?_
  have B := Bd_a B (t := 0) (len := 4) (k := 8) rfl
  revert B
  generalize hp_ur _ m 8 _ = h5
  intro B
  refine k_aload_n rfl rfl ?_
  refine k_bipush (v := nI 96) rfl (by decide) ?_
  refine k_newa (t := 2) (len := 96) rfl rfl rfl rfl (by decide) wd_85 rfl (by decide) (Nat.le_of_ble_eq_true rfl) (Nat.le_of_ble_eq_true rfl) ?_
  refine k_putFR rfl rfl wd_387 rfl rfl rfl (O_hn B.2.1) ?_
  have B := Bd_a B (t := 2) (len := 96) (k := 9) rfl
  revert B
  generalize hp_ur _ m 9 _ = h6
  intro B
  refine k_aload_n rfl rfl ?_
  refine k_sipush (v := nI 160) rfl (by decide) ?_
  refine k_newa (t := 0) (len := 160) rfl rfl rfl rfl (by decide) wd_59 rfl (by decide) (Nat.le_of_ble_eq_true rfl) (Nat.le_of_ble_eq_true rfl) ?_
  refine k_putFR rfl rfl wd_388 rfl rfl rfl (O_hn B.2.1) ?_
  have B := Bd_a B (t := 0) (len := 160) (k := 10) rfl
  revert B
  generalize hp_ur _ m 10 _ = h7
  intro B
  refine k_aload_n rfl rfl ?_
  refine k_sipush (v := nI 160) rfl (by decide) ?_
  refine k_newa (t := 0) (len := 160) rfl rfl rfl rfl (by decide) wd_59 rfl (by decide) (Nat.le_of_ble_eq_true rfl) (Nat.le_of_ble_eq_true rfl) ?_
  refine k_putFR rfl rfl wd_389 rfl rfl rfl (O_hn B.2.1) ?_
  have B := Bd_a B (t := 0) (len := 160) (k := 11) rfl
  revert B
  generalize hp_ur _ m 11 _ = h8
  intro B
  refine k_aload_n rfl rfl ?_
  refine k_sipush (v := nI 160) rfl (by decide) ?_
  refine k_newa (t := 0) (len := 160) rfl rfl rfl rfl (by decide) wd_59 rfl (by decide) (Nat.le_of_ble_eq_true rfl) (Nat.le_of_ble_eq_true rfl) ?_
  refine k_putFR rfl rfl wd_390 rfl rfl rfl (O_hn B.2.1) ?_
  have B := Bd_a B (t := 0) (len := 160) (k := 12) rfl
  revert B
  generalize hp_ur _ m 12 _ = h9
  intro B
  refine k_aload_n rfl rfl ?_
  refine k_sipush (v := nI 200) rfl (by decide) ?_
  refine k_newa (t := 0) (len := 200) rfl rfl rfl rfl (by decide) wd_59 rfl (by decide) (Nat.le_of_ble_eq_true rfl) (Nat.le_of_ble_eq_true rfl) ?_
  refine k_putFR rfl rfl wd_392 rfl rfl rfl (O_hn B.2.1) ?_
  have B := Bd_a B (t := 0) (len := 200) (k := 14) rfl
  revert B
  generalize hp_ur _ m 14 _ = h10
  intro B
  refine k_aload_n rfl rfl ?_
  refine k_sipush (v := nI 200) rfl (by decide) ?_
  refine k_newa (t := 0) (len := 200) rfl rfl rfl rfl (by decide) wd_59 rfl (by decide) (Nat.le_of_ble_eq_true rfl) (Nat.le_of_ble_eq_true rfl) ?_
  refine k_putFR rfl rfl wd_393 rfl rfl rfl (O_hn B.2.1) ?_
  have B := Bd_a B (t := 0) (len := 200) (k := 15) rfl
  revert B
  generalize hp_ur _ m 15 _ = h11
  intro B
  refine k_aload_n rfl rfl ?_
  refine k_sipush (v := nI 200) rfl (by decide) ?_
  refine k_newa (t := 0) (len := 200) rfl rfl rfl rfl (by decide) wd_59 rfl (by decide) (Nat.le_of_ble_eq_true rfl) (Nat.le_of_ble_eq_true rfl) ?_
  refine k_putFR rfl rfl wd_394 rfl rfl rfl (O_hn B.2.1) ?_
  have B := Bd_a B (t := 0) (len := 200) (k := 16) rfl
  revert B
  generalize hp_ur _ m 16 _ = h12
  intro B
  refine k_aload_n rfl rfl ?_
  refine k_sipush (v := nI 200) rfl (by decide) ?_
  refine k_newa (t := 1) (len := 200) rfl rfl rfl rfl (by decide) wd_60 rfl (by decide) (Nat.le_of_ble_eq_true rfl) (Nat.le_of_ble_eq_true rfl) ?_
  refine k_putFR rfl rfl wd_395 rfl rfl rfl (O_hn B.2.1) ?_
  have B := Bd_a B (t := 1) (len := 200) (k := 17) rfl
  revert B
  generalize hp_ur _ m 17 _ = h13
  intro B
  refine k_aload_n rfl rfl ?_
  refine k_iconst (v := -1) rfl (by decide) ?_
  refine k_putI rfl rfl rfl B.2.1 ?_
  have B := Bd_i (k := 18) (v := -1) B
  revert B
  generalize hp_ui _ m 18 _ = g18
  intro B
  have J : ∀ (v : Int32), v = nI (clmp c) → Ok g M_R_init (rmd (d + 1) 13 1624) (Zm g 13 1624 Q) 13 1624 g18 146 [some (.ref m), some (.int c)] [.int v, .ref m] := by
    intro v hv
    refine k_putFI rfl rfl wd_378 rfl rfl rfl B.2.1 ?_
    have B := Bd_i (k := 0) (v := v) B
    revert B
    generalize hp_ui g18 m 0 v = h9
    intro B
    obtain ⟨b1, b2, b3, b4, b5, b6, b7⟩ := B
    have S : ShR g h9 m := ⟨b2, (b4 0 (by decide)).1, (b4 1 (by decide)).1, (b4 2 (by decide)).1, (b4 3 (by decide)).1, (b4 4 (by decide)).1, (b4 5 (by decide)).1, (b4 6 (by decide)).1, (b4 7 (by decide)).1, (b4 8 (by decide)).1, (b4 9 (by decide)).1, (b4 10 (by decide)).1, (b4 11 (by decide)).1, (b4 12 (by decide)).1, (by rw [b7]; rfl), (by rw [b7]; rfl), (by rw [b7]; rfl), (by rw [b7]; rfl), (by rw [b7]; rfl), (by rw [b7]; rfl), (by rw [b7]; rfl), (by rw [b7]; rfl), (by rw [b7]; rfl), (by rw [b7]; rfl), (by rw [b7]; rfl), (by rw [b7]; rfl), (by rw [b7]; rfl)⟩
    have P : PR g h9 m (iniS (clmp c)) := ⟨S, (by rw [b5]; exact hv), (by rw [b5]; rfl), fun k z => absurd z (Nat.not_lt_zero k), fun k z => absurd z (Nat.not_lt_zero k), fun t k _ z => absurd z (Nat.not_lt_zero k), (by rw [b5]; rfl), (by rw [b5]; rfl), fun k z => absurd z (Nat.not_lt_zero k), fun k z => absurd z (Nat.not_lt_zero k), fun l q _ _ => (b4 5 (by decide)).2.1 _, fun l q _ _ => (b4 6 (by decide)).2.1 _, fun t k _ z => absurd z (Nat.not_lt_zero k), (by rw [b5]; rfl), fun k z => absurd z (Nat.not_lt_zero k), fun k z => absurd z (Nat.not_lt_zero k), fun k z => absurd z (Nat.not_lt_zero k), fun k z => absurd z (Nat.not_lt_zero k), (by rw [b5]; rfl), (by rw [b6]; rfl), (by rw [b6]; rfl)⟩
    refine k_vret rfl rfl (Nat.le_refl _) (Nat.le_refl _) ?_
    exact hQ h9 b1 b3 P
  refine k_aload_n rfl rfl ?_
  refine k_iload_n rfl rfl ?_
  refine k_iconst (v := 1) rfl (by decide) ?_
  refine k_icmp_ge rfl (fun c127 => ?_) (fun c127 => ?_)
  · refine k_iload_n rfl rfl ?_
    refine k_ldc rfl wd_377 ?_
    refine k_icmp_le rfl (fun c137 => ?_) (fun c137 => ?_)
    · refine k_iload_n rfl rfl ?_
      exact J _ (by unfold clmp; rw [if_neg (Int32.not_lt.mpr c127), if_neg (Int32.not_lt.mpr c137)]; exact cl_of (Int32.not_lt.mpr c127))
    · refine k_ldc rfl wd_377 ?_
      refine k_goto rfl ?_
      exact J _ (by unfold clmp; rw [if_neg (Int32.not_lt.mpr c127), if_pos (Int32.not_le.mp c137)]; decide)
  · refine k_iconst (v := 1) rfl (by decide) ?_
    refine k_goto rfl ?_
    exact J _ (by unfold clmp; rw [if_pos (Int32.not_le.mp c127)]; rfl)
