theorem old_mono {a b : Nat} {h h1 : Hp} (x : old b h h1) (e : a ≤ b) : old a h h1 := fun q hq => x q (by omega)
theorem old_O {g : Gx} {b x c : Nat} {h h1 : Hp} (y : old b h h1) (hn : hp_n h ≤ hp_n h1) (hx : x < b) (o : isO g h x c) : isO g h1 x c := ⟨o.1, Nat.lt_of_lt_of_le o.2.1 hn, (y x hx).1.trans o.2.2⟩
theorem old_A {g : Gx} {b x t n : Nat} {h h1 : Hp} (y : old b h h1) (hn : hp_n h ≤ hp_n h1) (hx : x < b) (o : isA g h x t n) : isA g h1 x t n := ⟨o.1, Nat.lt_of_lt_of_le o.2.1 hn, (y x hx).1.trans o.2.2.1, (y x hx).2.1.trans o.2.2.2⟩
/-- a new cell -/
def cW (g : Gx) (h : Hp) (a : Nat) : Prop := isO g h a 0 ∧ isA g h (a + 1) 0 4 ∧ isA g h (a + 2) 0 4 ∧ isA g h (a + 3) 0 4 ∧ isA g h (a + 4) 0 4 ∧ isA g h (a + 5) 1 4 ∧ hp_r h a 0 = some (a + 1) ∧ hp_r h a 1 = some (a + 2) ∧ hp_r h a 2 = some (a + 3) ∧ hp_r h a 3 = some (a + 4) ∧ hp_r h a 4 = some (a + 5) ∧ hp_i h a 6 = nI 60 ∧ hp_i h a 7 = nI 12 ∧ ∀ k, 0 < k → k < 5 → ∀ q, hp_i h (a + k) q = 0
/-- a new looker -/
def lW (g : Gx) (h : Hp) (a : Nat) : Prop := isO g h a 2 ∧ isA g h (a + 1) 2 24 ∧ hp_r h a 0 = some (a + 1) ∧ hp_i h a 3 = 0 ∧ hp_i h a 4 = 0 ∧ ∀ q, hp_i h (a + 1) q = 0
/-- a new log -/
def gW (g : Gx) (h : Hp) (a : Nat) : Prop := isO g h a 1 ∧ isA g h (a + 1) 0 200 ∧ isA g h (a + 2) 0 200 ∧ isA g h (a + 3) 0 200 ∧ isA g h (a + 4) 1 200 ∧ isA g h (a + 5) 0 200 ∧ hp_r h a 0 = some (a + 1) ∧ hp_r h a 1 = some (a + 2) ∧ hp_r h a 2 = some (a + 3) ∧ hp_r h a 3 = some (a + 4) ∧ hp_r h a 4 = some (a + 5) ∧ hp_i h a 5 = 0
theorem cW_old {g : Gx} {h h1 : Hp} {a b : Nat} (C : cW g h a) (hb : a + 6 ≤ b) (x : old b h h1) (hn : hp_n h ≤ hp_n h1) : cW g h1 a := by
  obtain ⟨c0, c1, c2, c3, c4, c5, r0, r1, r2, r3, r4, i6, i7, z⟩ := C
  have ra : ∀ q, hp_r h1 a q = hp_r h a q := (x a (by omega)).2.2.2.2
  have ia : ∀ q, hp_i h1 a q = hp_i h a q := (x a (by omega)).2.2.1
  exact ⟨old_O x hn (by omega) c0, old_A x hn (by omega) c1, old_A x hn (by omega) c2, old_A x hn (by omega) c3, old_A x hn (by omega) c4, old_A x hn (by omega) c5, (ra 0).trans r0, (ra 1).trans r1, (ra 2).trans r2, (ra 3).trans r3, (ra 4).trans r4, (ia 6).trans i6, (ia 7).trans i7, fun k h1 h2 q => ((x (a + k) (by omega)).2.2.1 q).trans (z k h1 h2 q)⟩
theorem lW_old {g : Gx} {h h1 : Hp} {a b : Nat} (C : lW g h a) (hb : a + 2 ≤ b) (x : old b h h1) (hn : hp_n h ≤ hp_n h1) : lW g h1 a := by
  obtain ⟨c0, c1, r0, i3, i4, z⟩ := C
  have ia : ∀ q, hp_i h1 a q = hp_i h a q := (x a (by omega)).2.2.1
  exact ⟨old_O x hn (by omega) c0, old_A x hn (by omega) c1, ((x a (by omega)).2.2.2.2 0).trans r0, (ia 3).trans i3, (ia 4).trans i4, fun q => ((x (a + 1) (by omega)).2.2.1 q).trans (z q)⟩
theorem gW_old {g : Gx} {h h1 : Hp} {a b : Nat} (C : gW g h a) (hb : a + 6 ≤ b) (x : old b h h1) (hn : hp_n h ≤ hp_n h1) : gW g h1 a := by
  obtain ⟨c0, c1, c2, c3, c4, c5, r0, r1, r2, r3, r4, i5⟩ := C
  have ra : ∀ q, hp_r h1 a q = hp_r h a q := (x a (by omega)).2.2.2.2
  exact ⟨old_O x hn (by omega) c0, old_A x hn (by omega) c1, old_A x hn (by omega) c2, old_A x hn (by omega) c3, old_A x hn (by omega) c4, old_A x hn (by omega) c5, (ra 0).trans r0, (ra 1).trans r1, (ra 2).trans r2, (ra 3).trans r3, (ra 4).trans r4, ((x a (by omega)).2.2.1 5).trans i5⟩
/-- writes of references elsewhere -/
theorem cW_ur {g : Gx} {h : Hp} {a b k : Nat} {v : Option Nat} (C : cW g h a) (hb : a ≠ b) : cW g (hp_ur h b k v) a := by
  obtain ⟨c0, c1, c2, c3, c4, c5, r0, r1, r2, r3, r4, i6, i7, z⟩ := C
  have ra : ∀ q, hp_r (hp_ur h b k v) a q = hp_r h a q := fun q => by rw [r_ur, if_neg (fun z => hb z.1)]
  exact ⟨c0, c1, c2, c3, c4, c5, (ra 0).trans r0, (ra 1).trans r1, (ra 2).trans r2, (ra 3).trans r3, (ra 4).trans r4, i6, i7, z⟩
theorem cW_ui {g : Gx} {h : Hp} {a b k : Nat} {v : Int32} (C : cW g h a) (hb : b < a) : cW g (hp_ui h b k v) a := by
  obtain ⟨c0, c1, c2, c3, c4, c5, r0, r1, r2, r3, r4, i6, i7, z⟩ := C
  exact ⟨c0, c1, c2, c3, c4, c5, r0, r1, r2, r3, r4, (i_ui.trans (if_neg (by omega))).trans i6, (i_ui.trans (if_neg (by omega))).trans i7, fun y h1 h2 q => (i_ui.trans (if_neg (by omega))).trans (z y h1 h2 q)⟩
theorem lW_ur {g : Gx} {h : Hp} {a b k : Nat} {v : Option Nat} (C : lW g h a) (hb : a ≠ b) : lW g (hp_ur h b k v) a := by
  obtain ⟨c0, c1, r0, i3, i4, z⟩ := C
  exact ⟨c0, c1, (r_ur.trans (if_neg (fun z => hb z.1))).trans r0, i3, i4, z⟩
theorem lW_ui {g : Gx} {h : Hp} {a b k : Nat} {v : Int32} (C : lW g h a) (hb : b < a) : lW g (hp_ui h b k v) a := by
  obtain ⟨c0, c1, r0, i3, i4, z⟩ := C
  exact ⟨c0, c1, r0, (i_ui.trans (if_neg (by omega))).trans i3, (i_ui.trans (if_neg (by omega))).trans i4, fun q => (i_ui.trans (if_neg (by omega))).trans (z q)⟩
theorem gW_ur {g : Gx} {h : Hp} {a b k : Nat} {v : Option Nat} (C : gW g h a) (hb : a ≠ b) : gW g (hp_ur h b k v) a := by
  obtain ⟨c0, c1, c2, c3, c4, c5, r0, r1, r2, r3, r4, i5⟩ := C
  have ra : ∀ q, hp_r (hp_ur h b k v) a q = hp_r h a q := fun q => by rw [r_ur, if_neg (fun z => hb z.1)]
  exact ⟨c0, c1, c2, c3, c4, c5, (ra 0).trans r0, (ra 1).trans r1, (ra 2).trans r2, (ra 3).trans r3, (ra 4).trans r4, i5⟩
theorem gW_ui {g : Gx} {h : Hp} {a b k : Nat} {v : Int32} (C : gW g h a) (hb : b < a) : gW g (hp_ui h b k v) a := by
  obtain ⟨c0, c1, c2, c3, c4, c5, r0, r1, r2, r3, r4, i5⟩ := C
  exact ⟨c0, c1, c2, c3, c4, c5, r0, r1, r2, r3, r4, (i_ui.trans (if_neg (by omega))).trans i5⟩
def KT_C_init : Nat → Nat × Nat × Nat := fun i => match i with
  | 0 => (0, 4, 0)
  | 1 => (0, 4, 1)
  | 2 => (0, 4, 2)
  | 3 => (0, 4, 3)
  | _ => (1, 4, 4)
theorem c_C_init {g : Gx} {h : Hp} {a d : Nat} {Q : Option Value → Hp → Prop} (hn : hp_n h = a + 1) (ho : isO g h a 0) (hzi : ∀ q, hp_i h a q = 0) (hQ : ∀ h1, hp_n h1 = a + 6 → old a h h1 → cW g h1 a → Q none h1) : Ct g M_C_init (d + 1) 5 20 [.ref a] h Q := by
  refine ct_of ok_C_init (by decide) (Nat.le_of_ble_eq_true rfl) [some (.ref a)] rfl rfl ?_
  have B := Bd_0 (KT := KT_C_init) hn ho
  rw [show hp_i h a = fun _ => 0 from funext hzi] at B
  refine k_aload_n rfl rfl ?_
  refine k_objInit rfl wd_22 wd_13 wd_14 (Nat.le_of_ble_eq_true rfl) (by show _ + 12 ≤ 48 * (d + 1); simp only [List.map_nil, List.sum_nil]; omega) ?_
  refine k_aload_n rfl rfl ?_
  refine k_iconst (v := nI 4) rfl (by decide) ?_
  refine k_newa (t := 0) (len := 4) rfl rfl rfl rfl (by decide) wd_59 rfl (by decide) (Nat.le_of_ble_eq_true rfl) (Nat.le_of_ble_eq_true rfl) ?_
  refine k_putFR rfl rfl wd_23 rfl rfl rfl (O_hn B.2.1) ?_
  have B := Bd_a B (t := 0) (len := 4) (k := 0) rfl
  revert B
  generalize hp_ur _ a 0 _ = h1
  intro B
  refine k_aload_n rfl rfl ?_
  refine k_iconst (v := nI 4) rfl (by decide) ?_
  refine k_newa (t := 0) (len := 4) rfl rfl rfl rfl (by decide) wd_59 rfl (by decide) (Nat.le_of_ble_eq_true rfl) (Nat.le_of_ble_eq_true rfl) ?_
  refine k_putFR rfl rfl wd_25 rfl rfl rfl (O_hn B.2.1) ?_
  have B := Bd_a B (t := 0) (len := 4) (k := 1) rfl
  revert B
  generalize hp_ur _ a 1 _ = h2
  intro B
  refine k_aload_n rfl rfl ?_
  refine k_iconst (v := nI 4) rfl (by decide) ?_
  refine k_newa (t := 0) (len := 4) rfl rfl rfl rfl (by decide) wd_59 rfl (by decide) (Nat.le_of_ble_eq_true rfl) (Nat.le_of_ble_eq_true rfl) ?_
  refine k_putFR rfl rfl wd_27 rfl rfl rfl (O_hn B.2.1) ?_
  have B := Bd_a B (t := 0) (len := 4) (k := 2) rfl
  revert B
  generalize hp_ur _ a 2 _ = h3
  intro B
  refine k_aload_n rfl rfl ?_
  refine k_iconst (v := nI 4) rfl (by decide) ?_
  refine k_newa (t := 0) (len := 4) rfl rfl rfl rfl (by decide) wd_59 rfl (by decide) (Nat.le_of_ble_eq_true rfl) (Nat.le_of_ble_eq_true rfl) ?_
  refine k_putFR rfl rfl wd_29 rfl rfl rfl (O_hn B.2.1) ?_
  have B := Bd_a B (t := 0) (len := 4) (k := 3) rfl
  revert B
  generalize hp_ur _ a 3 _ = h4
  intro B
  refine k_aload_n rfl rfl ?_
  refine k_iconst (v := nI 4) rfl (by decide) ?_
  refine k_newa (t := 1) (len := 4) rfl rfl rfl rfl (by decide) wd_60 rfl (by decide) (Nat.le_of_ble_eq_true rfl) (Nat.le_of_ble_eq_true rfl) ?_
  refine k_putFR rfl rfl wd_31 rfl rfl rfl (O_hn B.2.1) ?_
  have B := Bd_a B (t := 1) (len := 4) (k := 4) rfl
  revert B
  generalize hp_ur _ a 4 _ = h5
  intro B
  refine k_aload_n rfl rfl ?_
  refine k_iconst (v := -1) rfl (by decide) ?_
  refine k_putI rfl rfl rfl B.2.1 ?_
  have B := Bd_i (k := 5) (v := -1) B
  revert B
  generalize hp_ui _ a 5 _ = g5
  intro B
  refine k_aload_n rfl rfl ?_
  refine k_bipush (v := nI 60) rfl (by decide) ?_
  refine k_putI rfl rfl rfl B.2.1 ?_
  have B := Bd_i (k := 6) (v := nI 60) B
  revert B
  generalize hp_ui _ a 6 _ = g6
  intro B
  refine k_aload_n rfl rfl ?_
  refine k_bipush (v := nI 12) rfl (by decide) ?_
  refine k_putI rfl rfl rfl B.2.1 ?_
  have B := Bd_i (k := 7) (v := nI 12) B
  revert B
  generalize hp_ui _ a 7 _ = g7
  intro B
  refine k_vret rfl rfl (Nat.le_refl _) (Nat.le_refl _) ?_
  obtain ⟨b1, b2, b3, b4, b5, b6, b7⟩ := B
  exact hQ g7 b1 b3 ⟨b2, (b4 0 (by decide)).1, (b4 1 (by decide)).1, (b4 2 (by decide)).1, (b4 3 (by decide)).1, (b4 4 (by decide)).1, (by rw [b7]; rfl), (by rw [b7]; rfl), (by rw [b7]; rfl), (by rw [b7]; rfl), (by rw [b7]; rfl), (by rw [b5]; rfl), (by rw [b5]; rfl), fun k h1 h2 q => by
    have h3 := (b4 (k - 1) (by omega)).2.1 q
    rw [show a + 1 + (k - 1) = a + k by omega] at h3
    exact h3⟩
def KT_L_init : Nat → Nat × Nat × Nat := fun i => match i with
  | _ => (2, 24, 0)
theorem c_L_init {g : Gx} {h : Hp} {a d : Nat} {Q : Option Value → Hp → Prop} (hn : hp_n h = a + 1) (ho : isO g h a 2) (hzi : ∀ q, hp_i h a q = 0) (hQ : ∀ h1, hp_n h1 = a + 2 → old a h h1 → lW g h1 a → Q none h1) : Ct g M_L_init (d + 1) 1 24 [.ref a] h Q := by
  refine ct_of ok_L_init (by decide) (Nat.le_of_ble_eq_true rfl) [some (.ref a)] rfl rfl ?_
  have B := Bd_0 (KT := KT_L_init) hn ho
  rw [show hp_i h a = fun _ => 0 from funext hzi] at B
  refine k_aload_n rfl rfl ?_
  refine k_objInit rfl wd_67 wd_13 wd_14 (Nat.le_of_ble_eq_true rfl) (by show _ + 12 ≤ 48 * (d + 1); simp only [List.map_nil, List.sum_nil]; omega) ?_
  refine k_aload_n rfl rfl ?_
  refine k_bipush (v := nI 24) rfl (by decide) ?_
  refine k_newa (t := 2) (len := 24) rfl rfl rfl rfl (by decide) wd_85 rfl (by decide) (Nat.le_of_ble_eq_true rfl) (Nat.le_of_ble_eq_true rfl) ?_
  refine k_putFR rfl rfl wd_68 rfl rfl rfl (O_hn B.2.1) ?_
  have B := Bd_a B (t := 2) (len := 24) (k := 0) rfl
  revert B
  generalize hp_ur _ a 0 _ = h1
  intro B
  refine k_vret rfl rfl (Nat.le_refl _) (Nat.le_refl _) ?_
  obtain ⟨b1, b2, b3, b4, b5, b6, b7⟩ := B
  exact hQ h1 b1 b3 ⟨b2, (b4 0 (by decide)).1, (by rw [b7]; rfl), (by rw [b5]), (by rw [b5]), fun q => (b4 0 (by decide)).2.1 q⟩
def KT_G_init : Nat → Nat × Nat × Nat := fun i => match i with
  | 0 => (0, 200, 0)
  | 1 => (0, 200, 1)
  | 2 => (0, 200, 2)
  | 3 => (1, 200, 3)
  | _ => (0, 200, 4)
theorem c_G_init {g : Gx} {h : Hp} {a d : Nat} {Q : Option Value → Hp → Prop} (hn : hp_n h = a + 1) (ho : isO g h a 1) (hzi : ∀ q, hp_i h a q = 0) (hQ : ∀ h1, hp_n h1 = a + 6 → old a h h1 → gW g h1 a → Q none h1) : Ct g M_G_init (d + 1) 5 1000 [.ref a] h Q := by
  refine ct_of ok_G_init (by decide) (Nat.le_of_ble_eq_true rfl) [some (.ref a)] rfl rfl ?_
  have B := Bd_0 (KT := KT_G_init) hn ho
  rw [show hp_i h a = fun _ => 0 from funext hzi] at B
  refine k_aload_n rfl rfl ?_
  refine k_objInit rfl wd_91 wd_13 wd_14 (Nat.le_of_ble_eq_true rfl) (by show _ + 12 ≤ 48 * (d + 1); simp only [List.map_nil, List.sum_nil]; omega) ?_
  refine k_aload_n rfl rfl ?_
  refine k_sipush (v := nI 200) rfl (by decide) ?_
  refine k_newa (t := 0) (len := 200) rfl rfl rfl rfl (by decide) wd_59 rfl (by decide) (Nat.le_of_ble_eq_true rfl) (Nat.le_of_ble_eq_true rfl) ?_
  refine k_putFR rfl rfl wd_92 rfl rfl rfl (O_hn B.2.1) ?_
  have B := Bd_a B (t := 0) (len := 200) (k := 0) rfl
  revert B
  generalize hp_ur _ a 0 _ = h1
  intro B
  refine k_aload_n rfl rfl ?_
  refine k_sipush (v := nI 200) rfl (by decide) ?_
  refine k_newa (t := 0) (len := 200) rfl rfl rfl rfl (by decide) wd_59 rfl (by decide) (Nat.le_of_ble_eq_true rfl) (Nat.le_of_ble_eq_true rfl) ?_
  refine k_putFR rfl rfl wd_94 rfl rfl rfl (O_hn B.2.1) ?_
  have B := Bd_a B (t := 0) (len := 200) (k := 1) rfl
  revert B
  generalize hp_ur _ a 1 _ = h2
  intro B
  refine k_aload_n rfl rfl ?_
  refine k_sipush (v := nI 200) rfl (by decide) ?_
  refine k_newa (t := 0) (len := 200) rfl rfl rfl rfl (by decide) wd_59 rfl (by decide) (Nat.le_of_ble_eq_true rfl) (Nat.le_of_ble_eq_true rfl) ?_
  refine k_putFR rfl rfl wd_96 rfl rfl rfl (O_hn B.2.1) ?_
  have B := Bd_a B (t := 0) (len := 200) (k := 2) rfl
  revert B
  generalize hp_ur _ a 2 _ = h3
  intro B
  refine k_aload_n rfl rfl ?_
  refine k_sipush (v := nI 200) rfl (by decide) ?_
  refine k_newa (t := 1) (len := 200) rfl rfl rfl rfl (by decide) wd_60 rfl (by decide) (Nat.le_of_ble_eq_true rfl) (Nat.le_of_ble_eq_true rfl) ?_
  refine k_putFR rfl rfl wd_98 rfl rfl rfl (O_hn B.2.1) ?_
  have B := Bd_a B (t := 1) (len := 200) (k := 3) rfl
  revert B
  generalize hp_ur _ a 3 _ = h4
  intro B
  refine k_aload_n rfl rfl ?_
  refine k_sipush (v := nI 200) rfl (by decide) ?_
  refine k_newa (t := 0) (len := 200) rfl rfl rfl rfl (by decide) wd_59 rfl (by decide) (Nat.le_of_ble_eq_true rfl) (Nat.le_of_ble_eq_true rfl) ?_
  refine k_putFR rfl rfl wd_99 rfl rfl rfl (O_hn B.2.1) ?_
  have B := Bd_a B (t := 0) (len := 200) (k := 4) rfl
  revert B
  generalize hp_ur _ a 4 _ = h5
  intro B
  refine k_vret rfl rfl (Nat.le_refl _) (Nat.le_refl _) ?_
  obtain ⟨b1, b2, b3, b4, b5, b6, b7⟩ := B
  exact hQ h5 b1 b3 ⟨b2, (b4 0 (by decide)).1, (b4 1 (by decide)).1, (b4 2 (by decide)).1, (b4 3 (by decide)).1, (b4 4 (by decide)).1, (by rw [b7]; rfl), (by rw [b7]; rfl), (by rw [b7]; rfl), (by rw [b7]; rfl), (by rw [b7]; rfl), (by rw [b5])⟩
/-- the search while it is being built: the first i cells, the first l lookers -/
def B1 (g : Gx) (h : Hp) (o i : Nat) (fi : Nat → Int32) (fr : Nat → Option Nat) (h1 : Hp) : Prop := isO g h1 o 3 ∧ old o h h1 ∧ hp_i h1 o = fi ∧ hp_j h1 o = (fun _ => 0) ∧ hp_r h1 o = fr ∧ isA g h1 (o + 1) 0 4 ∧ (∀ q, hp_i h1 (o + 1) q = 0) ∧ isA g h1 (o + 2) 3 40 ∧ ∀ j, j < i → cW g h1 (ca o j) ∧ hp_r h1 (o + 2) j = some (ca o j)
theorem B1_old {g : Gx} {h h1 h2 : Hp} {o i b : Nat} {fi : Nat → Int32} {fr : Nat → Option Nat} (B : B1 g h o i fi fr h1) (hb : o + 3 + 6 * i ≤ b) (x : old b h1 h2) (hn : hp_n h1 ≤ hp_n h2) : B1 g h o i fi fr h2 := by
  obtain ⟨b1, b2, b3, b4, b5, b6, b7, b8, b9⟩ := B
  exact ⟨old_O x hn (by omega) b1, old_tr b2 (old_mono x (by omega)), by rw [← b3]; exact funext (x o (by omega)).2.2.1, by rw [← b4]; exact funext (x o (by omega)).2.2.2.1, by rw [← b5]; exact funext (x o (by omega)).2.2.2.2, old_A x hn (by omega) b6, fun q => ((x (o + 1) (by omega)).2.2.1 q).trans (b7 q), old_A x hn (by omega) b8, fun j hj => ⟨cW_old (b9 j hj).1 (by unfold ca; omega) x hn, ((x (o + 2) (by omega)).2.2.2.2 j).trans (b9 j hj).2⟩⟩
theorem up_fun {α : Type} {f : Nat → α} {F : Nat → Nat → α} {a k : Nat} {v : α} (e : F a = f) : up2 F a k v a = va_up f k v := by
  funext q
  unfold up2 va_up
  by_cases z : q = k
  · rw [if_pos ⟨rfl, z⟩, if_pos z]
  · rw [if_neg (fun y => z y.2), if_neg z, e]
theorem B1_ui {g : Gx} {h h1 : Hp} {o i k : Nat} {v : Int32} {fi : Nat → Int32} {fr : Nat → Option Nat} (B : B1 g h o i fi fr h1) : B1 g h o i (va_up fi k v) fr (hp_ui h1 o k v) := by
  obtain ⟨b1, b2, b3, b4, b5, b6, b7, b8, b9⟩ := B
  exact ⟨b1, old_tr b2 (old_ui (Nat.le_refl _)), up_fun b3, b4, b5, b6, fun q => (i_ui.trans (if_neg (by omega))).trans (b7 q), b8, fun j hj => ⟨cW_ui (b9 j hj).1 (by unfold ca; omega), (b9 j hj).2⟩⟩
theorem B1_ur {g : Gx} {h h1 : Hp} {o i k : Nat} {v : Option Nat} {fi : Nat → Int32} {fr : Nat → Option Nat} (B : B1 g h o i fi fr h1) : B1 g h o i fi (va_up fr k v) (hp_ur h1 o k v) := by
  obtain ⟨b1, b2, b3, b4, b5, b6, b7, b8, b9⟩ := B
  exact ⟨b1, old_tr b2 (old_ur (Nat.le_refl _)), b3, b4, up_fun b5, b6, b7, b8, fun j hj => ⟨cW_ur (b9 j hj).1 (by unfold ca; omega), (r_ur.trans (if_neg (by omega))).trans (b9 j hj).2⟩⟩
/-- one cell more -/
theorem B1_cell {g : Gx} {h h1 h2 : Hp} {o i : Nat} {fi : Nat → Int32} {fr : Nat → Option Nat} (B : B1 g h o i fi fr h1) (hn1 : hp_n h1 = o + 3 + 6 * i) (x : old (ca o i) h1 h2) (hn : hp_n h2 = o + 3 + 6 * i + 6) (C : cW g h2 (ca o i)) : B1 g h o (i + 1) fi fr (hp_ur h2 (o + 2) i (some (ca o i))) := by
  obtain ⟨b1, b2, b3, b4, b5, b6, b7, b8, b9⟩ := B1_old B (b := ca o i) (by unfold ca; omega) x (by omega)
  refine ⟨b1, old_tr b2 (old_ur (by omega)), b3, b4, ?_, b6, b7, b8, fun j hj => ?_⟩
  · rw [← b5]; funext q; rw [r_ur, if_neg (by omega)]
  · by_cases e : j = i
    · subst e
      exact ⟨cW_ur C (by unfold ca; omega), r_ur.trans (if_pos ⟨rfl, rfl⟩)⟩
    · exact ⟨cW_ur (b9 j (by omega)).1 (by unfold ca; omega), (r_ur.trans (if_neg (by omega))).trans (b9 j (by omega)).2⟩
def B2 (g : Gx) (o l : Nat) (h1 : Hp) : Prop := isA g h1 (o + 243) 4 4 ∧ ∀ y, y < l → lW g h1 (la o y) ∧ hp_r h1 (o + 243) y = some (la o y)
theorem B2_old {g : Gx} {h1 h2 : Hp} {o l b : Nat} (B : B2 g o l h1) (hb : o + 244 + 2 * l ≤ b) (x : old b h1 h2) (hn : hp_n h1 ≤ hp_n h2) : B2 g o l h2 :=
  ⟨old_A x hn (by omega) B.1, fun y hy => ⟨lW_old (B.2 y hy).1 (by unfold la; omega) x hn, ((x (o + 243) (by omega)).2.2.2.2 y).trans (B.2 y hy).2⟩⟩
theorem B2_ui {g : Gx} {h1 : Hp} {o l k : Nat} {v : Int32} (B : B2 g o l h1) : B2 g o l (hp_ui h1 o k v) := ⟨B.1, fun y hy => ⟨lW_ui (B.2 y hy).1 (by unfold la; omega), (B.2 y hy).2⟩⟩
theorem B2_ur {g : Gx} {h1 : Hp} {o l k : Nat} {v : Option Nat} (B : B2 g o l h1) : B2 g o l (hp_ur h1 o k v) := ⟨B.1, fun y hy => ⟨lW_ur (B.2 y hy).1 (by unfold la; omega), (r_ur.trans (if_neg (by omega))).trans (B.2 y hy).2⟩⟩
theorem B2_lkr {g : Gx} {h1 h2 : Hp} {o l : Nat} (B : B2 g o l h1) (hn1 : hp_n h1 = o + 244 + 2 * l) (x : old (la o l) h1 h2) (hn : hp_n h2 = o + 244 + 2 * l + 2) (C : lW g h2 (la o l)) : B2 g o (l + 1) (hp_ur h2 (o + 243) l (some (la o l))) := by
  obtain ⟨b1, b2⟩ := B2_old B (b := la o l) (by unfold la; omega) x (by omega)
  refine ⟨b1, fun y hy => ?_⟩
  by_cases e : y = l
  · subst e
    exact ⟨lW_ur C (by unfold la; omega), r_ur.trans (if_pos ⟨rfl, rfl⟩)⟩
  · exact ⟨lW_ur (b2 y (by omega)).1 (by unfold la; omega), (r_ur.trans (if_neg (by omega))).trans (b2 y (by omega)).2⟩
theorem B1_n2 {h1 : Hp} {o : Nat} (hn : hp_n h1 = o + 1) : hp_n (hp_ur (hp_new (hp_ur (hp_new h1 (.inr 0) 4) o 5 (some (hp_n h1))) (.inr 3) 40) o 1 (some (hp_n (hp_ur (hp_new h1 (.inr 0) 4) o 5 (some (hp_n h1)))))) = o + 3 + 6 * 0 := by show hp_n h1 + 1 + 1 = _; omega
theorem B1_start {g : Gx} {h h1 : Hp} {o : Nat} {v : Int32} (ho : isO g h1 o 3) (hn : hp_n h1 = o + 1) (hfi : hp_i h1 o = (va_up (fun _ => 0) 0 v)) (hfj : hp_j h1 o = fun _ => 0) (hfr : hp_r h1 o = fun _ => none) (hold : old o h h1) : B1 g h o 0 (va_up (fun _ => 0) 0 v) (va_up (va_up (fun _ => none) 5 (some (o + 1))) 1 (some (o + 2))) (hp_ur (hp_new (hp_ur (hp_new h1 (.inr 0) 4) o 5 (some (hp_n h1))) (.inr 3) 40) o 1 (some (hp_n (hp_ur (hp_new h1 (.inr 0) 4) o 5 (some (hp_n h1)))))) := by
  have e1 : hp_n (hp_ur (hp_new h1 (.inr 0) 4) o 5 (some (hp_n h1))) = o + 2 := by show hp_n h1 + 1 = _; omega
  have hB := ho.1
  refine ⟨O_hn (kd := .inr 3) (len := 40) (O_hn (kd := .inr 0) (len := 4) ho), old_tr hold (old_tr (old_hn (by omega)) (old_tr (old_ur (Nat.le_refl _)) (old_tr (old_hn (by omega)) (old_ur (Nat.le_refl _))))), ?_, ?_, ?_, ?_, fun q => ?_, ?_, fun jj hj => absurd hj (Nat.not_lt_zero _)⟩
  · rw [← hfi]
    funext q
    exact (i_hn (h := hp_ur (hp_new h1 (.inr 0) 4) o 5 (some (hp_n h1))) (kd := .inr 3) (len := 40) (by omega)).trans (i_hn (h := h1) (kd := .inr 0) (len := 4) (by omega))
  · rw [← hfj]
    funext q
    exact (j_hn (h := hp_ur (hp_new h1 (.inr 0) 4) o 5 (some (hp_n h1))) (kd := .inr 3) (len := 40) (by omega)).trans (j_hn (h := h1) (kd := .inr 0) (len := 4) (by omega))
  · rw [e1, hn]
    refine up_fun (funext fun q => ?_)
    refine (r_hn (h := hp_ur (hp_new h1 (.inr 0) 4) o 5 (some (o + 1))) (kd := .inr 3) (len := 40) (by show o ≠ hp_n h1 + 1; omega)).trans ?_
    refine congrFun (up_fun (f := fun _ => none) (funext fun q => ?_)) q
    refine (r_hn (h := h1) (kd := .inr 0) (len := 4) (by omega)).trans ?_
    rw [hfr]
  · refine A_hn (h := hp_ur (hp_new h1 (.inr 0) 4) o 5 (some (hp_n h1))) (kd := .inr 3) (len := 40) ?_
    rw [← hn]
    exact ⟨by omega, Nat.lt_succ_self _, va_up_self _ _ _, va_up_self _ _ _⟩
  · refine (i_hn (h := hp_ur (hp_new h1 (.inr 0) 4) o 5 (some (hp_n h1))) (kd := .inr 3) (len := 40) (by omega)).trans ?_
    show (if o + 1 = h1.1 then (0 : Int32) else _) = 0
    exact if_pos hn.symm
  · rw [← e1]
    exact ⟨by omega, Nat.lt_succ_self _, va_up_self _ _ _, va_up_self _ _ _⟩
theorem c_S_init {g : Gx} {h : Hp} {o d : Nat} {c : Int32} {Q : Option Value → Hp → Prop} (hn : hp_n h = o + 1) (ho : isO g h o 3) (hzi : ∀ q, hp_i h o q = 0) (hzj : ∀ q, hp_j h o q = 0) (hzr : ∀ q, hp_r h o q = none) (hQ : ∀ h1, hp_n h1 = o + 259 → old o h h1 → PC g h1 o (fun i => i) (iniS (clmp c)) → Q none h1) : Ct g M_S_init (d + 2) 258 3050 [.ref o, .int c] h Q := by
  refine ct_of ok_S_init (by decide) (Nat.le_of_ble_eq_true rfl) [some (.ref o), some (.int c), none] rfl rfl ?_
  refine k_aload_n rfl rfl ?_
  refine k_objInit rfl wd_12 wd_13 wd_14 (Nat.le_of_ble_eq_true rfl) (by show _ + 12 ≤ 48 * (d + 2); simp only [List.map_nil, List.sum_nil]; omega) ?_
  have J : ∀ (v : Int32), v = nI (clmp c) → Ok g M_S_init (rmd (d + 2) 258 3050) (Zm g 258 3050 Q) 0 0 h 26 [some (.ref o), some (.int c), none] [.int v, .ref o] := by
    intro v hv
    refine k_putFI rfl rfl wd_116 rfl rfl rfl ho ?_
    have ho : isO g (hp_ui h o 0 v) o 3 := ho
    have hn : hp_n (hp_ui h o 0 v) = o + 1 := hn
    have hfi : hp_i (hp_ui h o 0 v) o = va_up (fun _ => 0) 0 v := up_fun (funext hzi)
    have hfj : hp_j (hp_ui h o 0 v) o = fun _ => 0 := funext hzj
    have hfr : hp_r (hp_ui h o 0 v) o = fun _ => none := funext hzr
    have hold : old o h (hp_ui h o 0 v) := old_ui (Nat.le_refl _)
    revert ho hn hfi hfj hfr hold
    generalize hp_ui h o 0 v = h1
    intro ho hn hfi hfj hfr hold
    refine k_aload_n rfl rfl ?_
    refine k_iconst (v := nI 4) rfl (by decide) ?_
    refine k_newa (t := 0) (len := 4) rfl rfl rfl rfl (by decide) wd_59 rfl (by decide) (Nat.le_of_ble_eq_true rfl) (Nat.le_of_ble_eq_true rfl) ?_
    refine k_putFR rfl rfl wd_121 rfl rfl rfl (O_hn (kd := .inr 0) (len := 4) ho) ?_
    refine k_aload_n rfl rfl ?_
    refine k_bipush (v := nI 40) rfl (by decide) ?_
    refine k_newq (t := 3) (len := 40) (E := "SearchGrids$Cell") rfl rfl (by decide) wd_16 (by decide) rfl (by decide) (Nat.le_of_ble_eq_true rfl) (Nat.le_of_ble_eq_true rfl) ?_
    refine k_putFR rfl rfl wd_117 rfl rfl rfl (O_hn (kd := .inr 3) (len := 40) (O_hn (kd := .inr 0) (len := 4) ho)) ?_
    have C : B1 g h o 0 (va_up (fun _ => 0) 0 v) (va_up (va_up (fun _ => none) 5 (some (o + 1))) 1 (some (o + 2))) _ := B1_start ho hn hfi hfj hfr hold
    have n2 : hp_n _ = o + 3 + 6 * 0 := B1_n2 hn
    revert C n2
    generalize hp_ur (hp_new (hp_ur (hp_new h1 (.inr 0) 4) o 5 (some (hp_n h1))) (.inr 3) 40) o 1 (some (hp_n (hp_ur (hp_new h1 (.inr 0) 4) o 5 (some (hp_n h1))))) = h2
    intro C n2
    refine k_iconst (v := nI 0) rfl (by decide) ?_
    refine k_ist2 rfl rfl ?_
    suffices H : ∀ (q i : Nat) (h2 : Hp), i + q = 40 → hp_n h2 = o + 3 + 6 * i → B1 g h o i (va_up (fun _ => 0) 0 v) (va_up (va_up (fun _ => none) 5 (some (o + 1))) 1 (some (o + 2))) h2 → Ok g M_S_init (rmd (d + 2) 258 3050) (Zm g 258 3050 Q) (2 + 6 * i) (44 + 29 * i) h2 47 [some (.ref o), some (.int c), some (.int (nI i))] [] from H 40 0 h2 rfl n2 C
    intro q
    induction q with
    | zero =>
      intro i h2 hi n2 C
      have ei : i = 40 := by omega
      subst ei
      refine k_iload_n rfl rfl ?_
      refine k_bipush (v := nI 40) rfl (by decide) ?_
      refine kn_ge rfl (by omega) (by omega) (fun c50 => ?_) (fun c50 => ?_)
      · refine k_aload_n rfl rfl ?_
        refine k_iconst (v := nI 4) rfl (by decide) ?_
        refine k_newq (t := 4) (len := 4) (E := "SearchGrids$Looker") rfl rfl (by decide) wd_61 (by decide) rfl (by decide) (Nat.le_of_ble_eq_true rfl) (Nat.le_of_ble_eq_true rfl) ?_
        have C := B1_old C (b := o + 243) (by omega) (old_hn (kd := .inr 4) (len := 4) (by omega)) (Nat.le_succ _)
        have D : B2 g o 0 (hp_new h2 (.inr 4) 4) := ⟨by
          rw [show o + 243 = hp_n h2 by omega]
          exact ⟨by have := C.1.1; omega, Nat.lt_succ_self _, va_up_self _ _ _, va_up_self _ _ _⟩, fun y hy => absurd hy (Nat.not_lt_zero _)⟩
        have n3 : hp_n (hp_new h2 (.inr 4) 4) = o + 244 := by show hp_n h2 + 1 = _; omega
        rw [show hp_n h2 = o + 243 by omega]
        revert C D n3
        generalize hp_new h2 (.inr 4) 4 = h3
        intro C D n3
        refine k_putFR rfl rfl wd_119 rfl rfl rfl C.1 ?_
        have C := B1_ur (k := 3) (v := some (o + 243)) C
        have D := B2_ur (k := 3) (v := some (o + 243)) D
        have n2 : hp_n (hp_ur h3 o 3 (some (o + 243))) = o + 244 + 2 * 0 := n3
        clear n3
        revert C D n2
        generalize hp_ur h3 o 3 (some (o + 243)) = h2
        intro C D n2
        refine k_iconst (v := nI 0) rfl (by decide) ?_
        refine k_ist2 rfl rfl ?_
        suffices H2 : ∀ (q l : Nat) (h2 : Hp), l + q = 4 → hp_n h2 = o + 244 + 2 * l → B1 g h o 40 (va_up (fun _ => 0) 0 v) (va_up (va_up (va_up (fun _ => none) 5 (some (o + 1))) 1 (some (o + 2))) 3 (some (o + 243))) h2 → B2 g o l h2 → Ok g M_S_init (rmd (d + 2) 258 3050) (Zm g 258 3050 Q) (2 + 6 * 40 + 1 + 2 * l) (44 + 29 * 40 + 4 + 29 * l) h2 82 [some (.ref o), some (.int c), some (.int (nI l))] [] from H2 4 0 h2 rfl n2 C D
        intro q
        induction q with
        | zero =>
          intro l h2 hl n2 C D
          have el : l = 4 := by omega
          subst el
          refine k_iload_n rfl rfl ?_
          refine k_iconst (v := nI 4) rfl (by decide) ?_
          refine kn_ge rfl (by omega) (by omega) (fun c84 => ?_) (fun c84 => ?_)
          · refine k_aload_n rfl rfl ?_
            refine k_iconst (v := nI 1) rfl (by decide) ?_
            refine k_putI rfl rfl rfl C.1 ?_
            have C := B1_ui (k := 6) (v := nI 1) C
            have D := B2_ui (k := 6) (v := nI 1) D
            revert C D
            have n2 : hp_n (hp_ui h2 o 6 (nI 1)) = o + 252 := n2
            revert n2
            generalize hp_ui h2 o 6 (nI 1) = h3
            intro n2 C D
            refine k_aload_n rfl rfl ?_
            refine k_new (ci := 1) (N := 6) rfl wd_86 wd_87 wd_4 rfl (by decide +kernel) (by decide) (by show (2 + 6 * 40 + 1 + 2 * 4) + 1 ≤ 258; omega) (by show (44 + 29 * 40 + 4 + 29 * 4) + 6 ≤ 3050; omega) ?_
            refine k_dup rfl rfl ?_
            refine k_callIN (As := []) (mc := 5) (ms := 1000) (d := d + 1) rfl rfl rfl (Nat.le_of_ble_eq_true rfl) (by show (2 + 6 * 40 + 1 + 2 * 4) + 1 + 5 ≤ 258; omega) (by show (44 + 29 * 40 + 4 + 29 * 4 + 6) + 1000 ≤ 3050; omega) (rm_d (by decide)) (nsM (i := 2) rfl) cw_G_init ?_
            refine c_G_init (h := hp_new h3 (.inl 1) 0) (a := hp_n h3) rfl ⟨by rw [n2]; have := C.1.1; omega, Nat.lt_succ_self _, va_up_self _ _ _⟩ (fun q => if_pos rfl) (fun h4 n4 x4 G => ?_)
            have x5 : old (o + 252) h3 h4 := old_tr (old_hn (by omega)) (old_mono x4 (by omega))
            have C := B1_old C (b := o + 252) (by omega) x5 (by omega)
            have D := B2_old D (b := o + 252) (by omega) x5 (by omega)
            rw [n2] at n4 G
            clear x4 x5
            rw [n2]
            refine k_putFR rfl rfl wd_123 rfl rfl rfl C.1 ?_
            have C := B1_ur (k := 7) (v := some (o + 252)) C
            have D := B2_ur (k := 7) (v := some (o + 252)) D
            have G := gW_ur (b := o) (k := 7) (v := some (o + 252)) G (by omega)
            have n4 : hp_n (hp_ur h4 o 7 (some (o + 252))) = o + 252 + 6 := n4
            revert C D G n4
            generalize hp_ur h4 o 7 (some (o + 252)) = h5
            intro C D G n4
            refine k_aload_n rfl rfl ?_
            refine k_iconst (v := -1) rfl (by decide) ?_
            refine k_putI rfl rfl rfl C.1 ?_
            have C := B1_ui (k := 8) (v := -1) C
            have D := B2_ui (k := 8) (v := -1) D
            have G := gW_ui (b := o) (k := 8) (v := -1) G (by omega)
            have n4 : hp_n (hp_ui h5 o 8 (-1)) = o + 258 := n4
            revert C D G n4
            generalize hp_ui h5 o 8 (-1) = h6
            intro C D G n4
            refine k_aload_n rfl rfl ?_
            refine k_sipush (v := nI 720) rfl (by decide) ?_
            refine k_newa (t := 2) (len := 720) rfl rfl rfl rfl (by decide) wd_85 rfl (by decide) (Nat.le_of_ble_eq_true rfl) (Nat.le_of_ble_eq_true rfl) ?_
            have C := B1_old C (b := o + 258) (by omega) (old_hn (kd := .inr 2) (len := 720) (by omega)) (Nat.le_succ _)
            have D := B2_old D (b := o + 258) (by omega) (old_hn (kd := .inr 2) (len := 720) (by omega)) (Nat.le_succ _)
            have G := gW_old (b := o + 258) G (by omega) (old_hn (kd := .inr 2) (len := 720) (by omega)) (Nat.le_succ _)
            have A9 : isA g (hp_new h6 (.inr 2) 720) (o + 258) 2 720 := by
              rw [← n4]
              exact ⟨by have := C.1.1; omega, Nat.lt_succ_self _, va_up_self _ _ _, va_up_self _ _ _⟩
            have n9 : hp_n (hp_new h6 (.inr 2) 720) = o + 259 := by show hp_n h6 + 1 = _; rw [n4]
            rw [n4]
            revert C D G A9 n9
            generalize hp_new h6 (.inr 2) 720 = h7
            intro C D G A9 n9
            refine k_putFR rfl rfl wd_127 rfl rfl rfl C.1 ?_
            have C := B1_ur (k := 11) (v := some (o + 258)) C
            have D := B2_ur (k := 11) (v := some (o + 258)) D
            have G := gW_ur (b := o) (k := 11) (v := some (o + 258)) G (by omega)
            have n9 : hp_n (hp_ur h7 o 11 (some (o + 258))) = o + 259 := n9
            have A9 : isA g (hp_ur h7 o 11 (some (o + 258))) (o + 258) 2 720 := A9
            revert C D G n9 A9
            generalize hp_ur h7 o 11 (some (o + 258)) = h9
            intro C D G n9 A9
            refine k_vret rfl rfl (Nat.le_refl _) (Nat.le_refl _) ?_
            obtain ⟨c1, c2, c3, c4, c5, c6, c7, c8, c9⟩ := C
            have hcl : ∀ jj, jj < 40 → cW g h9 (ca o jj) ∧ hp_r h9 (o + 2) jj = some (ca o jj) := c9
            have hlk : ∀ y, y < 4 → lW g h9 (la o y) ∧ hp_r h9 (o + 243) y = some (la o y) := D.2
            obtain ⟨g0, g1, g2, g3, g4, g5, gr0, gr1, gr2, gr3, gr4, gi5⟩ := G
            have S : ShC g h9 o := ⟨c1, c6, c8, fun jj hj => by
                obtain ⟨q0, q1, q2, q3, q4, q5, r0, r1, r2, r3, r4, _⟩ := (hcl jj hj).1
                exact ⟨q0, q1, q2, q3, q4, q5, trivial, r0, r1, r2, r3, r4⟩, D.1, fun l hl => by
                obtain ⟨q0, q1, r0, _⟩ := (hlk l hl).1
                exact ⟨q0, q1, r0, (hlk l hl).2⟩, ⟨g0, g1, g2, g3, g4, g5, gr0, gr1, gr2, gr3, gr4⟩, A9, by rw [c5]; rfl, by rw [c5]; rfl, by rw [c5]; rfl, by rw [c5]; rfl, by rw [c5]; rfl⟩
            exact hQ h9 n9 c2 ⟨S, fun i hi => (hcl i hi).2, ⟨⟨fun i hi => hi, fun i jj _ _ e => e⟩, Nat.zero_le _⟩, fun i hi => absurd hi (Nat.not_lt_zero _), fun i _ hi => by
                obtain ⟨q0, q1, q2, q3, q4, q5, r0, r1, r2, r3, r4, i6, i7, z⟩ := (hcl i hi).1
                exact ⟨i6, i7, fun t _ => z 1 (by decide) (by decide) t, fun t _ => z 2 (by decide) (by decide) t, fun t _ => z 3 (by decide) (by decide) t⟩, fun jj hj l _ => by
                obtain ⟨q0, q1, q2, q3, q4, q5, r0, r1, r2, r3, r4, i6, i7, z⟩ := (hcl jj hj).1
                exact z 4 (by decide) (by decide) l, fun l _ => c7 l, fun l hl => by
                obtain ⟨q0, q1, r0, i3, i4, z⟩ := (hlk l hl).1
                exact ⟨fun y => absurd y (Nat.not_lt_zero _), i3, i4, fun q _ => z q, fun _ _ _ => rfl⟩, ⟨gi5, fun q hq => absurd hq (Nat.not_lt_zero _), fun q hq => absurd hq (Nat.not_lt_zero _)⟩, by rw [c3]; exact hv, by rw [c3]; rfl, by rw [c3]; rfl, by rw [c3]; rfl, by rw [c3]; rfl, by rw [c4]; rfl, by rw [c4]; rfl⟩
          · exact absurd c84 (by omega)
        | succ q ih =>
          intro l h2 hl n2 C D
          have hla : hp_n h2 = la o l := n2
          refine k_iload_n rfl rfl ?_
          refine k_iconst (v := nI 4) rfl (by decide) ?_
          refine kn_ge rfl (by omega) (by omega) (fun c84 => ?_) (fun c84 => ?_)
          · exact absurd c84 (by omega)
          · refine k_aload_n rfl rfl ?_
            refine k_getR rfl rfl C.1 (by rw [C.2.2.2.2.1]; rfl) ?_
            refine k_iload_n rfl rfl ?_
            refine k_new (ci := 2) (N := 5) rfl wd_61 wd_63 wd_3 rfl (by decide +kernel) (by decide) (by show (2 + 6 * 40 + 1 + 2 * l) + 1 ≤ 258; omega) (by show (44 + 29 * 40 + 4 + 29 * l) + 5 ≤ 3050; omega) ?_
            refine k_dup rfl rfl ?_
            refine k_callIN (As := []) (mc := 1) (ms := 24) (d := d + 1) rfl rfl rfl (Nat.le_of_ble_eq_true rfl) (by show (2 + 6 * 40 + 1 + 2 * l) + 1 + 1 ≤ 258; omega) (by show (44 + 29 * 40 + 4 + 29 * l + 5) + 24 ≤ 3050; omega) (rm_d (by decide)) (nsM (i := 1) rfl) cw_L_init ?_
            refine c_L_init (h := hp_new h2 (.inl 2) 0) (a := hp_n h2) rfl ⟨by rw [n2]; have := C.1.1; omega, Nat.lt_succ_self _, va_up_self _ _ _⟩ (fun q => if_pos rfl) (fun h4 n4 x4 G => ?_)
            have x5 : old (la o l) h2 h4 := old_tr (old_hn (by omega)) (old_mono x4 (by omega))
            rw [hla] at n4 G
            rw [hla]
            have C := B1_old C (b := la o l) (by unfold la; omega) x5 (by unfold la at *; omega)
            have D2 := B2_lkr D n2 x5 (by unfold la at n4; omega) G
            have A4 := (B2_old D (b := la o l) (by unfold la; omega) x5 (by unfold la at *; omega)).1
            refine k_aast rfl A4 G.1 (by decide +kernel) (by decide) rfl (by omega) (by decide) ?_
            have C : B1 g h o 40 (va_up (fun _ => 0) 0 v) (va_up (va_up (va_up (fun _ => none) 5 (some (o + 1))) 1 (some (o + 2))) 3 (some (o + 243))) (hp_ur h4 (o + 243) l (some (la o l))) := B1_old (b := o + 243) C (by omega) (old_ur (Nat.le_refl _)) (Nat.le_refl _)
            refine k_incN2 rfl rfl ?_
            refine k_goto rfl ?_
            have e9 := ih (l + 1) (hp_ur h4 (o + 243) l (some (la o l))) (by omega) (by show hp_n h4 = _; unfold la at n4; omega) C D2
            rw [show 2 + 6 * 40 + 1 + 2 * (l + 1) = 2 + 6 * 40 + 1 + 2 * l + 1 + 1 by omega, show 44 + 29 * 40 + 4 + 29 * (l + 1) = 44 + 29 * 40 + 4 + 29 * l + 5 + 24 by omega] at e9
            exact e9
      · exact absurd c50 (by omega)
    | succ q ih =>
      intro i h2 hi n2 C
      have hca : hp_n h2 = ca o i := n2
      refine k_iload_n rfl rfl ?_
      refine k_bipush (v := nI 40) rfl (by decide) ?_
      refine kn_ge rfl (by omega) (by omega) (fun c50 => ?_) (fun c50 => ?_)
      · exact absurd c50 (by omega)
      · refine k_aload_n rfl rfl ?_
        refine k_getR rfl rfl C.1 (by rw [C.2.2.2.2.1]; rfl) ?_
        refine k_iload_n rfl rfl ?_
        refine k_new (ci := 0) (N := 9) rfl wd_16 wd_18 wd_2 rfl (by decide +kernel) (by decide) (by show (2 + 6 * i) + 1 ≤ 258; omega) (by show (44 + 29 * i) + 9 ≤ 3050; omega) ?_
        refine k_dup rfl rfl ?_
        refine k_callIN (As := []) (mc := 5) (ms := 20) (d := d + 1) rfl rfl rfl (Nat.le_of_ble_eq_true rfl) (by show (2 + 6 * i) + 1 + 5 ≤ 258; omega) (by show (44 + 29 * i + 9) + 20 ≤ 3050; omega) (rm_d (by decide)) (nsM (i := 0) rfl) cw_C_init ?_
        refine c_C_init (h := hp_new h2 (.inl 0) 0) (a := hp_n h2) rfl ⟨by rw [n2]; have := C.1.1; omega, Nat.lt_succ_self _, va_up_self _ _ _⟩ (fun q => if_pos rfl) (fun h4 n4 x4 G => ?_)
        have x5 : old (ca o i) h2 h4 := old_tr (old_hn (by omega)) (old_mono x4 (by omega))
        rw [hca] at n4 G
        rw [hca]
        have C2 := B1_cell C n2 x5 (by unfold ca at n4; omega) G
        have A4 := (B1_old C (b := ca o i) (by unfold ca; omega) x5 (by unfold ca at *; omega)).2.2.2.2.2.2.2.1
        refine k_aast rfl A4 G.1 (by decide +kernel) (by decide) rfl (by omega) (by decide) ?_
        refine k_incN2 rfl rfl ?_
        refine k_goto rfl ?_
        have e9 := ih (i + 1) (hp_ur h4 (o + 2) i (some (ca o i))) (by omega) (by show hp_n h4 = _; unfold ca at n4; omega) C2
        rw [show 2 + 6 * (i + 1) = 2 + 6 * i + 1 + 5 by omega, show 44 + 29 * (i + 1) = 44 + 29 * i + 9 + 20 by omega] at e9
        exact e9
  refine k_aload_n rfl rfl ?_
  refine k_iload_n rfl rfl ?_
  refine k_iconst (v := 1) rfl (by decide) ?_
  refine k_icmp_ge rfl (fun c7 => ?_) (fun c7 => ?_)
  · refine k_iload_n rfl rfl ?_
    refine k_ldc rfl wd_15 ?_
    refine k_icmp_le rfl (fun c17 => ?_) (fun c17 => ?_)
    · refine k_iload_n rfl rfl ?_
      exact J _ (by unfold clmp; rw [if_neg (Int32.not_lt.mpr c7), if_neg (Int32.not_lt.mpr c17)]; exact cl_of (Int32.not_lt.mpr c7))
    · refine k_ldc rfl wd_15 ?_
      refine k_goto rfl ?_
      exact J _ (by unfold clmp; rw [if_neg (Int32.not_lt.mpr c7), if_pos (Int32.not_le.mp c17)]; decide)
  · refine k_iconst (v := 1) rfl (by decide) ?_
    refine k_goto rfl ?_
    exact J _ (by unfold clmp; rw [if_pos (Int32.not_le.mp c7)]; rfl)
