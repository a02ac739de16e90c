def bp (f : Nat → Nat) (l : Nat) : Nat → Nat := fun l1 => if l1 = l then f l1 + 1 else f l1
theorem bp_ge (f : Nat → Nat) (l l1 : Nat) : f l1 ≤ bp f l l1 := by unfold bp; split <;> omega
theorem bp_le {f : Nat → Nat} {l l1 B : Nat} (h : f l1 ≤ B) : bp f l l1 ≤ B + 1 := by unfold bp; split <;> omega
theorem ms1_mono {s : St} {f f1 : Nat → Nat} (h : ∀ l, f l ≤ f1 l) (k l : Nat) : ms1 s f1 k l ≤ ms1 s f k l := by
  unfold ms1
  refine Nat.mul_le_mul_left _ (Nat.sub_le_sub_left ?_ _)
  by_cases z : l < s_lkr s
  · rw [if_pos z, if_pos z]
    have := Nat.mul_le_mul_right (s_rt s l) (h l)
    omega
  · rw [if_neg z, if_neg z]; exact Nat.le_refl _
theorem msP_mono {s : St} {f f1 : Nat → Nat} (h : ∀ l, f l ≤ f1 l) (k : Nat) : ∀ l, msP s f1 k l ≤ msP s f k l
  | 0 => Nat.le_refl _
  | l + 1 => Nat.mul_le_mul (msP_mono h k l) (ms1_mono h k l)
theorem fdN_mono {s : St} {f f1 : Nat → Nat} (h : ∀ l, f l ≤ f1 l) (k : Nat) : fdN s f k ≤ fdN s f1 k :=
  Nat.mul_le_mul_left _ (Nat.sub_le_sub_left (msP_mono h k 4) _)
theorem fdN_le {s : St} (I : Inv s) {k : Nat} (hk : k < s_told s) (f : Nat → Nat) : fdN s f k ≤ 4000 * 268738560000 := Nat.mul_le_mul (wt_le I hk) (Nat.sub_le _ _)
/-- what one hour more brings -/
def gnN (s : St) (F : Nat → Nat → Nat) (l k : Nat) : Nat := fdN s (bp (fun l => F l k) l) k - fdN s (fun l => F l k) k
theorem bmp_col (F : Nat → Nat → Nat) (l k : Nat) : (fun l1 => bmp F l k l1 k) = bp (fun l1 => F l1 k) l := by
  funext l1
  unfold bmp bp
  by_cases e : l1 = l
  · rw [if_pos ⟨e, rfl⟩, if_pos e]
  · rw [if_neg (fun z => e z.1), if_neg e]
theorem bmp_oth (F : Nat → Nat → Nat) {l k k1 : Nat} (h : k1 ≠ k) : (fun l1 => bmp F l k l1 k1) = fun l1 => F l1 k1 := by
  funext l1
  unfold bmp
  rw [if_neg (fun z => h z.2)]
theorem wo_bmp (s : St) (F : Nat → Nat → Nat) (l k : Nat) : ∀ n, wo s (bmp F l k) n = wo s F n + (if k < n then gnN s F l k else 0)
  | 0 => by simp [wo]
  | n + 1 => by
    rw [wo_fd, wo_fd, wo_bmp s F l k n]
    by_cases e : n = k
    · subst e
      rw [bmp_col, if_neg (Nat.lt_irrefl n), if_pos (by omega)]
      have := fdN_mono (s := s) (bp_ge (fun l1 => F l1 n) l) n
      unfold gnN
      omega
    · rw [bmp_oth F e]
      by_cases z : k < n
      · rw [if_pos z, if_pos (by omega)]; omega
      · rw [if_neg z, if_neg (by omega)]; omega
theorem gv_bmp (F : Nat → Nat → Nat) (l k l1 : Nat) : ∀ n, gv (bmp F l k) l1 n = gv F l1 n + (if l1 = l ∧ k < n then 1 else 0)
  | 0 => by rw [if_neg (by omega)]; rfl
  | n + 1 => by
    simp only [gv]
    rw [gv_bmp F l k l1 n]
    unfold bmp
    by_cases e : l1 = l ∧ n = k
    · rw [if_pos e, if_neg (by omega), if_pos (by omega)]; omega
    · rw [if_neg e]
      by_cases z : l1 = l ∧ k < n
      · rw [if_pos z, if_pos (by omega)] <;> omega
      · rw [if_neg z, if_neg (by omega)] <;> omega
theorem sz_bmp (s : St) (F : Nat → Nat → Nat) {l k : Nat} (hk : k < s_told s) : ∀ n, szN (w_pl s (bmp F l k)) n = szN (w_pl s F) n + (if l < n then 1 else 0)
  | 0 => by rw [if_neg (by omega)]; rfl
  | n + 1 => by
    show szN (w_pl s (bmp F l k)) n + gv (bmp F l k) n (s_told s) = szN (w_pl s F) n + gv F n (s_told s) + _
    rw [sz_bmp s F hk n, gv_bmp]
    by_cases e : n = l
    · rw [if_neg (show ¬ l < n by omega), if_pos (show n = l ∧ k < s_told s from ⟨e, hk⟩), if_pos (show l < n + 1 by omega)] <;> omega
    · rw [if_neg (show ¬ (n = l ∧ k < s_told s) from fun z => e z.1)]
      by_cases z : l < n
      · rw [if_pos z, if_pos (show l < n + 1 by omega)] <;> omega
      · rw [if_neg z, if_neg (show ¬ l < n + 1 by omega)] <;> omega
theorem sz_0 (s : St) : ∀ n, szN (w_pl s (fun _ _ => 0)) n = 0
  | 0 => rfl
  | n + 1 => by
    show szN (w_pl s (fun _ _ => 0)) n + gv (fun _ _ => 0) n (s_told s) = 0
    rw [sz_0 s n, gv_0]
theorem cB_tr {g : Gx} {h h1 : Hp} {o j i : Nat} {s : St} {A : Nat → Prop} (B : cB g h o s j i) (x : hp_fr A h h1) (hr : hp_r h1 = hp_r h) (e : ∀ a, (a = ca o j ∨ a = ca o j + 1 ∨ a = o + 1) → ∀ q, hp_i h1 a q = hp_i h a q) : cB g h1 o s j i := by
  obtain ⟨hj, hi, C, A1, e7, e8, ec, er⟩ := B
  obtain ⟨c0, c1, c2, c3, c4, c5, r0, r1, r2, r3, r4, r5⟩ := C
  exact ⟨hj, hi, ⟨fr_O x c0, fr_A x c1, fr_A x c2, fr_A x c3, fr_A x c4, fr_A x c5, trivial, by rw [hr]; exact r1, by rw [hr]; exact r2, by rw [hr]; exact r3, by rw [hr]; exact r4, by rw [hr]; exact r5⟩, fr_A x A1, (e _ (Or.inl rfl) _).trans e7, (e _ (Or.inl rfl) _).trans e8, fun t ht => (e _ (Or.inr (Or.inl rfl)) _).trans (ec t ht), fun l hl => (e _ (Or.inr (Or.inr rfl)) _).trans (er l hl)⟩
theorem ui_back {h : Hp} {a k b q : Nat} {x v : Int32} {y : Int64} (e : hp_i h a k = v) : hp_i (hp_ui (hp_uj (hp_ui h a k x) b q y) a k v) = hp_i h := by
  funext a1 k1
  rw [i_ui]
  by_cases z : a1 = a ∧ k1 = k
  · rw [if_pos z, z.1, z.2, e]
  · rw [if_neg z, i_uj, i_ui, if_neg z]
theorem c_C_reckonGains {g : Gx} {h : Hp} {o d j i : Nat} {s : St} {Q : Option Value → Hp → Prop} (I : Inv s) (B : cB g h o s j i) {f : Nat → Nat} (hpl : ∀ l, l < 4 → hp_i h (ca o j + 2) l = nI (f l)) (hfb : ∀ l, f l ≤ 101) (hQ : ∀ h1, hp_fr (fun a => a = ca o j + 2 ∨ a = ca o j + 5) h h1 → hp_i h1 = hp_i h → hp_r h1 = hp_r h → (∀ l, l < 4 → hp_j h1 (ca o j + 5) l = lN (fdN s (bp f l) i - fdN s f i)) → (∀ a, a ≠ ca o j + 5 → hp_j h1 a = hp_j h a) → Q none h1) : Ct g M_C_reckonGains (d + 4) 0 0 [.ref (ca o j), .ref (o + 1)] h Q := by
  obtain ⟨hj, hi, C, A1, e7, e8, ec, er⟩ := id B
  obtain ⟨c0, c1, c2, c3, c4, c5, r0, r1, r2, r3, r4, r5⟩ := id C
  refine ct_of ok_C_reckonGains (by decide) (Nat.le_of_ble_eq_true rfl) [some (.ref (ca o j)), some (.ref (o + 1)), none, none, none] rfl rfl ?_
  refine k_aload_n rfl rfl ?_
  refine k_aload_n rfl rfl ?_
  refine k_getR rfl rfl c0 r2 ?_
  refine k_aload_n rfl rfl ?_
  refine k_cV2 rfl cw_C_finds wd_233 c0 rfl (by decide) (Nat.le_of_ble_eq_true rfl) ?_
  refine c_C_finds (f := f) I B c2 hpl (fun l1 hl1 => by have := hfb l1; omega) ?_
  refine k_lst2 rfl rfl ?_
  refine k_iconst (v := nI 0) rfl (by decide) ?_
  refine k_ist4 rfl rfl ?_
  suffices H : ∀ (q l : Nat) (h1 : Hp), l + q = 4 → hp_fr (fun a => a = ca o j + 2 ∨ a = ca o j + 5) h h1 → hp_i h1 = hp_i h → hp_r h1 = hp_r h → (∀ l1, l1 < l → hp_j h1 (ca o j + 5) l1 = lN (fdN s (bp f l1) i - fdN s f i)) → (∀ a, a ≠ ca o j + 5 → hp_j h1 a = hp_j h a) → Om g M_C_reckonGains (d + 4) Q h1 13 [some (.ref (ca o j)), some (.ref (o + 1)), some (.long (lN (fdN s f i))), none, some (.int (nI l))] [] from
    H 4 0 h rfl fr_rf rfl rfl (fun l1 hl1 => absurd hl1 (Nat.not_lt_zero _)) (fun _ _ => rfl)
  intro q
  induction q with
  | zero =>
    intro l h1 hl hF hi1 hr hg hj1
    have el : l = 4 := by omega
    subst el
    refine k_iload rfl rfl ?_
    refine k_iconst (v := nI 4) rfl (by decide) ?_
    refine kn_ge rfl (by omega) (by omega) (fun c16 => ?_) (fun c16 => ?_)
    · refine k_vret rfl rfl (Nat.le_refl _) (Nat.le_refl _) ?_
      exact hQ h1 hF hi1 hr hg hj1
    · exact absurd c16 (by omega)
  | succ q ih =>
    intro l h1 hl hF hi1 hr hg hj1
    have c0 := fr_O hF c0
    have c2 := fr_A hF c2
    have c5 := fr_A hF c5
    have r2 : hp_r h1 (ca o j) 1 = some (ca o j + 2) := by rw [hr]; exact r2
    have r5 : hp_r h1 (ca o j) 4 = some (ca o j + 5) := by rw [hr]; exact r5
    have hv : hp_i h1 (ca o j + 2) l = nI (f l) := by rw [hi1]; exact hpl l (by omega)
    have B2 : cB g (hp_ui h1 (ca o j + 2) l (nI (f l + 1))) o s j i := cB_tr B (fr_tr hF (fr_ui (Or.inl rfl))) hr (fun a ha q => by rw [i_ui, if_neg (fun z => by unfold ca at ha z; omega), hi1])
    have row2 : ∀ l1, l1 < 4 → hp_i (hp_ui h1 (ca o j + 2) l (nI (f l + 1))) (ca o j + 2) l1 = nI (bp f l l1) := fun l1 hl1 => by
      rw [i_ui]
      unfold bp
      by_cases e : l1 = l
      · rw [if_pos ⟨rfl, e⟩, if_pos e, e]
      · rw [if_neg (fun z => e z.2), if_neg e, hi1]; exact hpl l1 hl1
    have hmono := fdN_mono (s := s) (bp_ge f l) i
    refine k_iload rfl rfl ?_
    refine k_iconst (v := nI 4) rfl (by decide) ?_
    refine kn_ge rfl (by omega) (by omega) (fun c16 => ?_) (fun c16 => ?_)
    · exact absurd c16 (by omega)
    · refine k_aload_n rfl rfl ?_
      refine k_getR rfl rfl c0 r2 ?_
      refine k_iload rfl rfl ?_
      refine k_dup2 rfl rfl rfl ?_
      refine k_iA rfl c2 rfl (by omega) (by decide) hv ?_
      refine k_iconst (v := nI 1) rfl (by decide) ?_
      refine k_iaddN rfl ?_
      refine k_iS rfl c2 rfl (by omega) (by decide) ?_
      refine k_aload_n rfl rfl ?_
      refine k_getR rfl rfl c0 r5 ?_
      refine k_iload rfl rfl ?_
      refine k_aload_n rfl rfl ?_
      refine k_aload_n rfl rfl ?_
      refine k_getR rfl rfl c0 r2 ?_
      refine k_aload_n rfl rfl ?_
      refine k_cV2 rfl cw_C_finds wd_233 c0 rfl (by decide) (Nat.le_of_ble_eq_true rfl) ?_
      refine c_C_finds (f := bp f l) I B2 c2 row2 (fun l1 hl1 => by have := bp_le (l := l) (hfb l1); omega) ?_
      refine k_lload_n rfl rfl ?_
      refine k_lsubN rfl hmono ?_
      refine k_lS rfl c5 rfl (by omega) (by decide) ?_
      refine k_aload_n rfl rfl ?_
      refine k_getR rfl rfl c0 r2 ?_
      refine k_iload rfl rfl ?_
      refine k_dup2 rfl rfl rfl ?_
      refine k_iA (x := nI (f l + 1)) rfl c2 rfl (by omega) (by decide) (by rw [i_uj, i_ui, if_pos ⟨rfl, rfl⟩]) ?_
      refine k_iconst (v := nI 1) rfl (by decide) ?_
      refine k_isubN rfl (by omega) ?_
      rw [Nat.add_sub_cancel]
      refine k_iS rfl c2 rfl (by omega) (by decide) ?_
      refine k_incN4 rfl rfl ?_
      refine k_goto rfl ?_
      refine ih (l + 1) _ (by omega) (fr_tr hF (fr_tr (fr_ui (Or.inl rfl)) (fr_tr (fr_uj (Or.inr rfl)) (fr_ui (Or.inl rfl))))) ((ui_back hv).trans hi1) hr (fun l1 hl1 => ?_) (fun a ha => ?_)
      · rw [j_ui, j_uj]
        by_cases e : l1 = l
        · rw [if_pos ⟨rfl, e⟩, e]
        · rw [if_neg (fun z => e z.2), j_ui]; exact hg l1 (by omega)
      · rw [j_ui]
        rw [← hj1 a ha]
        funext k1
        rw [j_uj, if_neg (fun z => ha z.1), j_ui]
def bLk (b : Option Nat) : Int32 := match b with
  | none => -1
  | some j => nI (j / 40)
def bAt (b : Option Nat) : Int32 := match b with
  | none => -1
  | some j => nI (j % 40)
/-- the gains stand in the cells -/
def gnH (h : Hp) (o : Nat) (p : Nat → Nat) (s : St) (F : Nat → Nat → Nat) (n : Nat) : Prop := ∀ i, i < n → ∀ l, l < 4 → hp_j h (ca o (p i) + 5) l = lN (gnN s F l i)
/-- another plan in the same state -/
theorem pc_pl {g : Gx} {h h1 : Hp} {o : Nat} {p : Nat → Nat} {s : St} {F G : Nat → Nat → Nat} (P : PC g h o p (w_pl s F)) (x : hp_fr (inC o) h h1) (hr : hp_r h1 = hp_r h) (E : ∀ a j, (∀ i, i < s_told s → a ≠ ca o (p i) + 2) → (∀ l, l < 4 → ¬ (a = la o l ∧ j = 3)) → hp_i h1 a j = hp_i h a j) (Ej : ∀ a j, (∀ i, i < 40 → a ≠ ca o i + 5) → hp_j h1 a j = hp_j h a j) (hpl : ∀ i, i < s_told s → ∀ l, l < 4 → hp_i h1 (ca o (p i) + 2) l = nI (G l i)) (hgv : ∀ l, l < 4 → hp_i h1 (la o l) 3 = nI (gv G l (s_told s))) : PC g h1 o p (w_pl s G) := by
  have hm := (pc_m P).1
  have b40 : s_told s ≤ 40 := pc_told40 (s := w_pl s F) P
  have e0 : ∀ a, a ≤ o + 2 → ∀ i, i < s_told s → a ≠ ca o (p i) + 2 := fun a ha i hi => by unfold ca; omega
  have e2 : ∀ a, o + 243 ≤ a → ∀ i, i < s_told s → a ≠ ca o (p i) + 2 := fun a ha i hi => by have := hm i (by omega); unfold ca; omega
  have e1 : ∀ a j, (a < o + 244 ∨ o + 252 ≤ a ∨ j ≠ 3) → ∀ l, l < 4 → ¬ (a = la o l ∧ j = 3) := fun a j ha l hl => by unfold la; omega
  have eo : ∀ j, hp_i h1 o j = hp_i h o j := fun j => E o j (e0 o (by omega)) (e1 o j (Or.inl (by omega)))
  have ejo : ∀ j, hp_j h1 o j = hp_j h o j := fun j => Ej o j (fun i hi => by unfold ca; omega)
  refine ⟨sc_fr (pc_S P) x (fun a _ _ q => by rw [hr]), fun i hi => by rw [hr]; exact pc_r P i hi, ⟨pc_m P, b40⟩, fun i hi => ?_, fun i hi h4 => ?_, fun j hj y hy => ?_, fun y hy => (E _ y (e0 _ (by omega)) (e1 _ _ (Or.inl (by omega)))).trans (pc_rt (s := w_pl s F) P y hy), fun l hl => ?_, gT_cg (gT_tr (pc_g P) (fun q q1 q2 j => E _ j (e2 _ (by omega)) (e1 _ _ (Or.inr (Or.inl (by omega))))) (fun j => Ej _ j (fun i hi => by unfold ca; omega))) rfl rfl rfl rfl rfl, (eo 0).trans (pc_cells (s := w_pl s F) P), (eo 2).trans (pc_told (s := w_pl s F) P), (eo 4).trans (pc_lkr (s := w_pl s F) P), (eo 6).trans (pc_things (s := w_pl s F) P), (eo 8).trans (pc_seen (s := w_pl s F) P), (ejo 9).trans (pc_ab (s := w_pl s F) P), (ejo 10).trans (pc_bl (s := w_pl s F) P)⟩
  · have hi : i < s_told s := hi
    have hb := hm i (by omega)
    obtain ⟨a1, a2, a3, a4, a5, a6⟩ := pc_t P i hi
    have ee : ∀ k, k < 4 → k ≠ 2 → ∀ j, hp_i h1 (ca o (p i) + k) j = hp_i h (ca o (p i) + k) j := fun k hk k2 j => E _ j (fun i1 hi1 => ca_ne (by omega) (by omega) (Or.inl k2)) (e1 _ _ (Or.inl (by unfold ca; omega)))
    exact ⟨(ee 0 (by omega) (by omega) 5).trans a1, (ee 0 (by omega) (by omega) 6).trans a2, (ee 0 (by omega) (by omega) 7).trans a3, fun t ht => (ee 1 (by omega) (by omega) t).trans (a4 t ht), fun t ht => hpl i hi t ht, fun t ht => (ee 3 (by omega) (by omega) t).trans (a6 t ht)⟩
  · have hi : s_told s ≤ i := hi
    have hb := hm i h4
    exact cF_tr (pc_f P i hi h4) (fun k hk j _ => E _ j (fun i1 hi1 => ca_ne (by omega) (by omega) (Or.inr (fun z => by have := (pc_m P).2 i i1 h4 (by omega) z; omega))) (e1 _ _ (Or.inl (by unfold ca; omega))))
  · exact (E _ y (fun i1 hi1 => ca_ne (by omega) (by omega) (Or.inl (by omega))) (e1 _ _ (Or.inl (by unfold ca; omega)))).trans (pc_z P j hj y hy)
  · obtain ⟨b1, b2, b3, b4, b5⟩ := pc_l P l hl
    have hus : us (w_pl s G) l = us (w_pl s F) l := by rw [us_pl, us_pl]
    have el : ∀ j, j ≠ 3 → hp_i h1 (la o l) j = hp_i h (la o l) j := fun j hj => E _ j (e2 _ (by unfold la; omega)) (e1 _ _ (Or.inr (Or.inr hj)))
    exact ⟨fun z => ⟨(el 1 (by omega)).trans (b1 z).1, (el 2 (by omega)).trans ((b1 z).2.trans (by rw [hus]))⟩, hgv l hl, (el 4 (by omega)).trans b3, fun y hy => (E _ y (e2 _ (by unfold la; omega)) (fun l1 hl1 => by unfold la; omega)).trans (b4 y hy), b5⟩
theorem c_S_giveBestHour {g : Gx} {h : Hp} {o d : Nat} {p : Nat → Nat} {s : St} {F : Nat → Nat → Nat} {Q : Option Value → Hp → Prop} (P : PC g h o p (w_pl s F)) (I : Inv s) (hF100 : ∀ l k, F l k ≤ 100) (G : gnH h o p s F (s_told s)) (hN : bst s F = none → Q (some (.int 0)) h) (hS : ∀ l k, bst s F = some (40 * l + k) → l < s_lkr s → k < s_told s → ∀ h1, hp_fr (inC o) h h1 → PC g h1 o p (w_pl s (bmp F l k)) → gnH h1 o p s (bmp F l k) (s_told s) → Q (some (.int 1)) h1) : Ct g M_S_giveBestHour (d + 5) 0 0 [.ref o] h Q := by
  have S := pc_S P
  have bT := v_told I
  have bL := v_lkr I
  have hT0 : hp_i h o 2 = nI (s_told s) := pc_told (s := w_pl s F) P
  have hL0 : hp_i h o 4 = nI (s_lkr s) := pc_lkr (s := w_pl s F) P
  refine ct_of ok_S_giveBestHour (by decide) (Nat.le_of_ble_eq_true rfl) [some (.ref o), none, none, none, none, none, none, none] rfl rfl ?_
  obtain ⟨W0, eW⟩ : ∃ w, w = wo s F (s_told s) := ⟨_, rfl⟩
  have hW0 := wo_le I F (s_told s) (Nat.le_refl _)
  rw [← eW] at hW0
  have hbW : ∀ l k, k < s_told s → wo s (bmp F l k) (s_told s) = W0 + gnN s F l k := fun l k hk => by rw [wo_bmp, if_pos hk, eW]
  have hgl : ∀ l k, k < s_told s → gnN s F l k ≤ 4000 * 268738560000 := fun l k hk => Nat.le_trans (Nat.sub_le _ _) (fdN_le I hk _)
  have hbs : bst s F = (scL s F (s_lkr s) 0 none W0).1 := by rw [eW]; rfl
  have J : ∀ (z5 : Nat) (z6 z7 : Option Value) (b : Option Nat) (mo : Nat), okB s b → (bst s F = b) → Om g M_S_giveBestHour (d + 5) Q h 117 [some (.ref o), some (.long (lN (mo - W0))), none, some (.int (bLk b)), some (.int (bAt b)), some (.int (nI z5)), z6, z7] [] := by
    intro z5 z6 z7
    intro b mo hb hbs
    cases b with
    | none =>
      refine k_iload_n rfl rfl ?_
      refine k_iconst (v := -1) rfl (by decide) ?_
      refine k_icmp_eq rfl (fun c119 => ?_) (fun c119 => ?_)
      · refine k_iconst (v := nI 0) rfl (by decide) ?_
        refine k_zret rfl rfl (by decide) (Nat.le_refl _) (Nat.le_refl _) ?_
        exact hN hbs
      · exact absurd rfl c119
    | some j =>
      obtain ⟨l, k, ej, h1l, h1k⟩ := hb j rfl
      subst ej
      have e1 : (40 * l + k) / 40 = l := by omega
      have e2 : (40 * l + k) % 40 = k := by omega
      show Om g M_S_giveBestHour (d + 5) Q h 117 [some (.ref o), some (.long (lN (mo - W0))), none, some (.int (nI ((40 * l + k) / 40))), some (.int (nI ((40 * l + k) % 40))), some (.int (nI z5)), z6, z7] []
      rw [e1, e2]
      have hpk := (pc_m P).1 k (by omega)
      have B2 : cB g (hp_ui (hp_ui h (ca o (p k) + 2) l (nI (F l k + 1))) (la o l) 3 (nI (gv F l (s_told s) + 1))) o s (p k) k := cB_tr (show cB g h o s (p k) k from cB_of P (show k < s_told (w_pl s F) from h1k)) (A := inC o) (fr_tr (fr_ui ⟨by unfold ca; omega, by unfold ca; omega⟩) (fr_ui ⟨by unfold la; omega, by unfold la; omega⟩)) rfl (fun a ha q => by
        rw [i_ui, if_neg (fun z => by unfold ca at ha; unfold la at z; omega), i_ui, if_neg (fun z => by unfold ca at ha z; omega)])
      have row2 : ∀ l1, l1 < 4 → hp_i (hp_ui (hp_ui h (ca o (p k) + 2) l (nI (F l k + 1))) (la o l) 3 (nI (gv F l (s_told s) + 1))) (ca o (p k) + 2) l1 = nI (bp (fun l1 => F l1 k) l l1) := fun l1 hl1 => by
        rw [i_ui, if_neg (by unfold ca la; omega), i_ui]
        unfold bp
        by_cases e : l1 = l
        · rw [if_pos ⟨rfl, e⟩, if_pos e, e]
        · rw [if_neg (fun z => e z.2), if_neg e]
          exact (pc_t P k h1k).2.2.2.2.1 l1 hl1
      refine k_iload_n rfl rfl ?_
      refine k_iconst (v := -1) rfl (by decide) ?_
      refine k_icmp_eq rfl (fun c119 => ?_) (fun c119 => ?_)
      · exact absurd c119 (nI_m1 (by omega))
      · refine k_iload rfl rfl ?_
        refine k_iconst (v := -1) rfl (by decide) ?_
        refine k_icmp_ne rfl (fun c125 => ?_) (fun c125 => ?_)
        · refine k_aload_n rfl rfl ?_
          refine k_getR rfl rfl (sc_o S) (sc_told S) ?_
          refine k_iload rfl rfl ?_
          refine k_aald (q := ca o (p k)) rfl (sc_a2 S) rfl (by decide) rfl (show k < 40 by omega) (by decide) (pc_r P k (by omega)) ?_
          refine k_getR rfl rfl (sc_c S (p k) hpk).1 (sc_c S (p k) hpk).2.2.2.2.2.2.2.2.1 ?_
          refine k_iload_n rfl rfl ?_
          refine k_dup2 rfl rfl rfl ?_
          refine k_iA (x := nI (F l k)) rfl (sc_c S (p k) hpk).2.2.1 rfl (show l < 4 by omega) (by decide) ((pc_t P k h1k).2.2.2.2.1 l (by omega)) ?_
          refine k_iconst (v := nI 1) rfl (by decide) ?_
          refine k_iaddN rfl ?_
          refine k_iS rfl (sc_c S (p k) hpk).2.2.1 rfl (show l < 4 by omega) (by decide) ?_
          refine k_aload_n rfl rfl ?_
          refine k_getR rfl rfl (sc_o S) (sc_lkrs S) ?_
          refine k_iload_n rfl rfl ?_
          refine k_aald (q := la o l) rfl (sc_a243 S) rfl (by decide) rfl (show l < 4 by omega) (by decide) (sc_l S l (by omega)).2.2.2 ?_
          refine k_dup rfl rfl ?_
          refine k_gI (x := nI (gv F l (s_told s))) rfl rfl (sc_l S l (by omega)).1 (by rw [i_ui, if_neg (by unfold ca la; omega)]; exact (pc_l P l (by omega)).2.1) ?_
          refine k_iconst (v := nI 1) rfl (by decide) ?_
          refine k_iaddN rfl ?_
          refine k_putI rfl rfl rfl (sc_l S l (by omega)).1 ?_
          refine k_aload_n rfl rfl ?_
          refine k_getR rfl rfl (sc_o S) (sc_told S) ?_
          refine k_iload rfl rfl ?_
          refine k_aald (q := ca o (p k)) rfl (sc_a2 S) rfl (by decide) rfl (show k < 40 by omega) (by decide) (pc_r P k (by omega)) ?_
          refine k_aload_n rfl rfl ?_
          refine k_getR rfl rfl (sc_o S) (sc_rates S) ?_
          refine k_cVN1 rfl cw_C_reckonGains (nsM (i := 5) rfl) (sc_c S (p k) hpk).1 rfl (by decide) (Nat.le_of_ble_eq_true rfl) ?_
          refine c_C_reckonGains (f := bp (fun l1 => F l1 k) l) I B2 row2 (fun l1 => bp_le (hF100 l1 k)) (fun h1 x1 hi1 hr1 hg1 hj1 => ?_)
          refine k_iconst (v := nI 1) rfl (by decide) ?_
          refine k_zret rfl rfl (by decide) (Nat.le_refl _) (Nat.le_refl _) ?_
          have x2 : hp_fr (inC o) h (hp_ui (hp_ui h (ca o (p k) + 2) l (nI (F l k + 1))) (la o l) 3 (nI (gv F l (s_told s) + 1))) := fr_tr (fr_ui ⟨by unfold ca; omega, by unfold ca; omega⟩) (fr_ui ⟨by unfold la; omega, by unfold la; omega⟩)
          have x3 : hp_fr (inC o) h h1 := fr_tr x2 (fr_mono x1 (fun a z => ⟨by unfold ca at z; omega, by unfold ca at z; omega⟩))
          have E : ∀ a j, ¬ (a = ca o (p k) + 2 ∧ j = l) ∧ ¬ (a = la o l ∧ j = 3) → hp_i h1 a j = hp_i h a j := fun a j z => by rw [hi1, i_ui, if_neg z.2, i_ui, if_neg z.1]
          have Ej : ∀ a j, ¬ (a = ca o (p k) + 5) → hp_j h1 a j = hp_j h a j := fun a j z => by rw [hj1 a z]; rfl
          refine hS l k hbs h1l h1k h1 x3 (pc_pl (G := bmp F l k) P x3 (by rw [hr1]; rfl) (fun a j h2 h3 => E a j ⟨fun z => h2 k h1k z.1, h3 l (by omega)⟩) (fun a j h2 => Ej a j (h2 (p k) hpk)) (fun i hi y hy => ?_) (fun l1 hl1 => ?_)) (fun i hi y hy => ?_)
          · unfold bmp
            by_cases e : y = l ∧ i = k
            · rw [if_pos e, e.1, e.2, hi1, i_ui, if_neg (by unfold ca la; omega), i_ui, if_pos ⟨rfl, rfl⟩]
            · rw [if_neg e, hi1, i_ui, if_neg (by have := (pc_m P).1 i (by omega); unfold ca la; omega), i_ui, if_neg (fun z => e ⟨z.2, pm_ca (k := 2) (pc_m P) (by omega) (by omega) z.1⟩)]
              exact (pc_t P i hi).2.2.2.2.1 y hy
          · rw [gv_bmp]
            by_cases e : l1 = l
            · rw [if_pos ⟨e, h1k⟩, hi1, e, i_ui, if_pos ⟨rfl, rfl⟩]
            · rw [if_neg (fun z => e z.1), hi1, i_ui, if_neg (by unfold la; omega), i_ui, if_neg (by unfold la ca; omega)]
              exact (pc_l P l1 hl1).2.1
          · by_cases e : i = k
            · subst e
              rw [hg1 y hy]
              unfold gnN
              rw [bmp_col]
            · have hb1 := (pc_m P).1 i (by omega)
              have hne : p i ≠ p k := fun z => e ((pc_m P).2 _ _ (by omega) (by omega) z)
              rw [hj1 _ (by unfold ca; omega)]
              show hp_j h _ _ = _
              rw [G i hi y hy]
              unfold gnN
              rw [bmp_oth F e]
        · exact absurd c125 (nI_m1 (by omega))
  refine k_lconst (v := lN 0) rfl (by decide) ?_
  refine k_lst1 rfl rfl ?_
  refine k_iconst (v := -1) rfl (by decide) ?_
  refine k_ist3 rfl rfl ?_
  refine k_iconst (v := -1) rfl (by decide) ?_
  refine k_ist4 rfl rfl ?_
  refine k_iconst (v := nI 0) rfl (by decide) ?_
  refine k_ist5 rfl rfl ?_
  suffices H : ∀ (q l : Nat) (b : Option Nat) (mo : Nat) (z6 z7 : Option Value), l + q = s_lkr s → okB s b → W0 ≤ mo → mo ≤ W0 + 4000 * 268738560000 → (scL s F (s_lkr s) 0 none W0).1 = (scL s F q l b mo).1 → Om g M_S_giveBestHour (d + 5) Q h 10 [some (.ref o), some (.long (lN (mo - W0))), none, some (.int (bLk b)), some (.int (bAt b)), some (.int (nI l)), z6, z7] [] from by
    have e9 := H (s_lkr s) 0 none W0 none none (Nat.zero_add _) (fun j hj => by cases hj) (Nat.le_refl _) (by omega) rfl
    rw [Nat.sub_self] at e9
    exact e9
  intro q
  induction q with
  | zero =>
    intro l b mo z6 z7 hl hb h5 h6 e
    have el : l = s_lkr s := by omega
    subst el
    refine k_iload rfl rfl ?_
    refine k_aload_n rfl rfl ?_
    refine k_gI rfl rfl (sc_o S) hL0 ?_
    refine kn_ge rfl (by omega) (by omega) (fun c16 => ?_) (fun c16 => ?_)
    · exact J _ z6 z7 b mo hb (hbs.trans e)
    · exact absurd c16 (by omega)
  | succ q ih =>
    intro l b mo z6 z7 hl hb h5 h6 e
    have hll : l < s_lkr s := by omega
    have hgv : gv F l (s_told s) ≤ s_told s * 100 := gv_le _ (fun k _ => hF100 l k)
    have hus := usN_le s l (s_hr s l)
    have hhr := v_hr I l hll
    have hus1 : us s l ≤ 24 := by unfold us; omega
    have hu2 : hp_i h (la o l) 2 = nI (us s l) := ((pc_l P l (by omega)).1 hll).2.trans (by rw [us_pl])
    have hg2 : hp_i h (la o l) 3 = nI (gv F l (s_told s)) := (pc_l P l (by omega)).2.1
    simp only [scL] at e
    refine k_iload rfl rfl ?_
    refine k_aload_n rfl rfl ?_
    refine k_gI rfl rfl (sc_o S) hL0 ?_
    refine kn_ge rfl (by omega) (by omega) (fun c16 => ?_) (fun c16 => ?_)
    · exact absurd c16 (by omega)
    · refine k_aload_n rfl rfl ?_
      refine k_getR rfl rfl (sc_o S) (sc_lkrs S) ?_
      refine k_iload rfl rfl ?_
      refine k_aald (q := la o l) rfl (sc_a243 S) rfl (by decide) rfl (show l < 4 by omega) (by decide) (sc_l S l (by omega)).2.2.2 ?_
      refine k_gI rfl rfl (sc_l S l (by omega)).1 hg2 ?_
      refine k_aload_n rfl rfl ?_
      refine k_getR rfl rfl (sc_o S) (sc_lkrs S) ?_
      refine k_iload rfl rfl ?_
      refine k_aald (q := la o l) rfl (sc_a243 S) rfl (by decide) rfl (show l < 4 by omega) (by decide) (sc_l S l (by omega)).2.2.2 ?_
      refine k_gI rfl rfl (sc_l S l (by omega)).1 hu2 ?_
      refine kn_ge rfl (by omega) (by omega) (fun c39 => ?_) (fun c39 => ?_)
      · refine k_iconst (v := nI 0) rfl (by decide) ?_
        refine k_ist6 rfl rfl ?_
        refine k_iconst (v := nI 0) rfl (by decide) ?_
        refine k_ist7 rfl rfl ?_
        rw [if_neg (by omega)] at e
        refine k_iload rfl rfl ?_
        refine k_if_eq rfl (fun c54 => ?_) (fun c54 => ?_)
        · refine k_incN5 rfl rfl ?_
          refine k_goto rfl ?_
          exact ih (l + 1) b mo _ _ (by omega) hb h5 h6 e
        · exact absurd (show nI 0 = 0 from rfl) c54
      · refine k_iconst (v := nI 1) rfl (by decide) ?_
        refine k_goto rfl ?_
        refine k_ist6 rfl rfl ?_
        refine k_iconst (v := nI 0) rfl (by decide) ?_
        refine k_ist7 rfl rfl ?_
        rw [if_pos (by omega)] at e
        suffices H2 : ∀ (q2 k : Nat) (b : Option Nat) (mo : Nat), k + q2 = s_told s → okB s b → W0 ≤ mo → mo ≤ W0 + 4000 * 268738560000 → (scL s F (s_lkr s) 0 none W0).1 = (scL s F q (l + 1) (scK s F l q2 k b mo).1 (scK s F l q2 k b mo).2).1 → Om g M_S_giveBestHour (d + 5) Q h 52 [some (.ref o), some (.long (lN (mo - W0))), none, some (.int (bLk b)), some (.int (bAt b)), some (.int (nI l)), some (.int (nI 1)), some (.int (nI k))] [] from H2 (s_told s) 0 b mo (Nat.zero_add _) hb h5 h6 e
        intro q2
        induction q2 with
        | zero =>
          intro k b mo hk hb h5 h6 e
          refine k_iload rfl rfl ?_
          refine k_if_eq rfl (fun c54 => ?_) (fun c54 => ?_)
          · exact absurd c54 (by decide)
          · refine k_iload rfl rfl ?_
            refine k_aload_n rfl rfl ?_
            refine k_gI rfl rfl (sc_o S) hT0 ?_
            refine kn_ge rfl (by omega) (by omega) (fun c63 => ?_) (fun c63 => ?_)
            · refine k_incN5 rfl rfl ?_
              refine k_goto rfl ?_
              exact ih (l + 1) b mo _ _ (by omega) hb h5 h6 e
            · exact absurd c63 (by omega)
        | succ q2 ih2 =>
          intro k b mo hk hb h5 h6 e
          have hkt : k < s_told s := by omega
          have hpk := (pc_m P).1 k (by omega)
          have hgk := hgl l k hkt
          simp only [scK] at e
          rw [hbW l k hkt] at e
          refine k_iload rfl rfl ?_
          refine k_if_eq rfl (fun c54 => ?_) (fun c54 => ?_)
          · exact absurd c54 (by decide)
          · refine k_iload rfl rfl ?_
            refine k_aload_n rfl rfl ?_
            refine k_gI rfl rfl (sc_o S) hT0 ?_
            refine kn_ge rfl (by omega) (by omega) (fun c63 => ?_) (fun c63 => ?_)
            · exact absurd c63 (by omega)
            · refine k_aload_n rfl rfl ?_
              refine k_getR rfl rfl (sc_o S) (sc_told S) ?_
              refine k_iload rfl rfl ?_
              refine k_aald (q := ca o (p k)) rfl (sc_a2 S) rfl (by decide) rfl (show k < 40 by omega) (by decide) (pc_r P k (by omega)) ?_
              refine k_getR rfl rfl (sc_c S (p k) hpk).1 (sc_c S (p k) hpk).2.2.2.2.2.2.2.2.2.2.2 ?_
              refine k_iload rfl rfl ?_
              refine k_lA rfl (sc_c S (p k) hpk).2.2.2.2.2.1 rfl (show l < 4 by omega) (by decide) (G k hkt l (by omega)) ?_
              refine k_lload_n rfl rfl ?_
              refine klN_le rfl rfl (by omega) (by omega) (fun c80 => ?_) (fun c80 => ?_)
              · refine k_incN7 rfl rfl ?_
                refine k_goto rfl ?_
                rw [if_neg (show ¬ mo < W0 + gnN s F l k by omega), if_neg (show ¬ mo < W0 + gnN s F l k by omega)] at e
                exact ih2 (k + 1) b mo (by omega) hb h5 h6 e
              · refine k_aload_n rfl rfl ?_
                refine k_getR rfl rfl (sc_o S) (sc_told S) ?_
                refine k_iload rfl rfl ?_
                refine k_aald (q := ca o (p k)) rfl (sc_a2 S) rfl (by decide) rfl (show k < 40 by omega) (by decide) (pc_r P k (by omega)) ?_
                refine k_getR rfl rfl (sc_c S (p k) hpk).1 (sc_c S (p k) hpk).2.2.2.2.2.2.2.2.2.2.2 ?_
                refine k_iload rfl rfl ?_
                refine k_lA rfl (sc_c S (p k) hpk).2.2.2.2.2.1 rfl (show l < 4 by omega) (by decide) (G k hkt l (by omega)) ?_
                refine k_lst1 rfl rfl ?_
                refine k_iload rfl rfl ?_
                refine k_ist3 rfl rfl ?_
                refine k_iload rfl rfl ?_
                refine k_ist4 rfl rfl ?_
                refine k_incN7 rfl rfl ?_
                refine k_goto rfl ?_
                rw [if_pos (show mo < W0 + gnN s F l k by omega), if_pos (show mo < W0 + gnN s F l k by omega)] at e
                have e9 := ih2 (k + 1) (some (40 * l + k)) (W0 + gnN s F l k) (by omega) (fun j hj => ⟨l, k, (Option.some.inj hj).symm, hll, hkt⟩) (by omega) (by omega) e
                rw [Nat.add_sub_cancel_left] at e9
                have d1 : (40 * l + k) / 40 = l := by omega
                have d2 : (40 * l + k) % 40 = k := by omega
                have d3 : bLk (some (40 * l + k)) = nI l := by show nI ((40 * l + k) / 40) = _; rw [d1]
                have d4 : bAt (some (40 * l + k)) = nI k := by show nI ((40 * l + k) % 40) = _; rw [d2]
                rw [d3, d4] at e9
                exact e9
theorem c_S_share {g : Gx} {h : Hp} {o d : Nat} {p : Nat → Nat} {s : St} {Q : Option Value → Hp → Prop} (P : PC g h o p s) (I : Inv s) (n : Int32) (hQ : ∀ h1 p1, hp_fr (inC o) h h1 → PC g h1 o p1 (shS s n).2 → Q (some (.int ((shS s n).1))) h1) : Ct g M_S_share (d + 6) 0 0 [.ref o, .int n] h Q := by
  have S := pc_S P
  have bT := v_told I
  have bL := v_lkr I
  refine ct_of ok_S_share (by decide) (Nat.le_of_ble_eq_true rfl) [some (.ref o), some (.int n), none] rfl rfl ?_
  have N := pn_of P
  unfold shS at hQ
  refine k_iload_n rfl rfl ?_
  refine k_i2l rfl ?_
  refine k_lconst (v := lN 0) rfl (by decide) ?_
  refine k_ldc2 rfl wd_228 ?_
  refine k_cS3 rfl cw_S_isWithin wd_161 (by decide) (Nat.le_of_ble_eq_true rfl) ?_
  refine c_S_isWithin _ _ _ ?_
  rw [wi_nat (n := 100) (y := 100) (by decide) n (by decide +kernel)]
  refine kb_ne rfl (fun c9 => ?_) (fun c9 => ?_)
  · obtain ⟨n0, hn0, en0, enc⟩ := isc_of (by decide) c9
    rw [if_neg (by
      rintro (z | z)
      · rw [en0] at z; exact nI_pos (by omega) z
      · rw [en0] at z; exact absurd ((nI_ltI (by decide) (by omega)).mp z) (by omega)), enc] at hQ
    clear enc
    subst en0
    refine k_aload_n rfl rfl ?_
    refine k_cV0 rfl cw_S_dropPlan wd_177 (sc_o S) rfl (by decide) (Nat.le_of_ble_eq_true rfl) ?_
    refine c_S_dropPlan N (fun h1 x1 P1 => ?_)
    refine k_iconst (v := nI 0) rfl (by decide) ?_
    refine k_ist2 rfl rfl ?_
    suffices H : ∀ (q i : Nat) (h2 : Hp), i + q = s_told s → hp_fr (inC o) h h2 → PC g h2 o p (zeroP s) → gnH h2 o p s (fun _ _ => 0) i → Om g M_S_share (d + 6) Q h2 20 [some (.ref o), some (.int (nI n0)), some (.int (nI i))] [] from H (s_told s) 0 h1 (Nat.zero_add _) x1 P1 (fun i hi => absurd hi (Nat.not_lt_zero _))
    intro q
    induction q with
    | zero =>
      intro i h2 hi hF P2 G2
      have ei : i = s_told s := by omega
      subst ei
      have S2 := pc_S P2
      have hT2 : hp_i h2 o 2 = nI (s_told s) := pc_told (s := zeroP s) P2
      refine k_iload_n rfl rfl ?_
      refine k_aload_n rfl rfl ?_
      refine k_gI rfl rfl (sc_o S2) hT2 ?_
      refine kn_ge rfl (by omega) (by omega) (fun c25 => ?_) (fun c25 => ?_)
      · refine k_iconst (v := nI 0) rfl (by decide) ?_
        refine k_ist2 rfl rfl ?_
        suffices H3 : ∀ (q k : Nat) (F : Nat → Nat → Nat) (h3 : Hp), k + q = n0 → hp_fr (inC o) h h3 → PC g h3 o p (w_pl s F) → gnH h3 o p s F (s_told s) → (∀ l k1, F l k1 ≤ k) → szN (w_pl s F) (s_lkr s) = k → shF s n0 (fun _ _ => 0) = shF s q F → Om g M_S_share (d + 6) Q h3 49 [some (.ref o), some (.int (nI n0)), some (.int (nI k))] [] from H3 n0 0 (fun _ _ => 0) h2 (Nat.zero_add _) hF P2 G2 (fun _ _ => Nat.le_refl _) (sz_0 s _) rfl
        have fin : ∀ (k : Nat) (F : Nat → Nat → Nat) (h3 : Hp), hp_fr (inC o) h h3 → PC g h3 o p (w_pl s F) → szN (w_pl s F) (s_lkr s) = k → shF s n0 (fun _ _ => 0) = F → Q (some (.int (nI k))) h3 := by
          intro k F h3 hF3 P3 hz e
          rw [e, hz] at hQ
          exact hQ h3 p hF3 P3
        intro q
        induction q with
        | zero =>
          intro k F h3 hk hF3 P3 G3 hb hz e
          refine k_iload_n rfl rfl ?_
          refine k_iload_n rfl rfl ?_
          refine kn_ge rfl (by omega) (by omega) (fun c51 => ?_) (fun c51 => ?_)
          · refine k_iload_n rfl rfl ?_
            refine k_iret rfl rfl (Nat.le_refl _) (Nat.le_refl _) ?_
            exact fin k F h3 hF3 P3 hz e
          · exact absurd c51 (by omega)
        | succ q ih =>
          intro k F h3 hk hF3 P3 G3 hb hz e
          have S3 := pc_S P3
          refine k_iload_n rfl rfl ?_
          refine k_iload_n rfl rfl ?_
          refine kn_ge rfl (by omega) (by omega) (fun c51 => ?_) (fun c51 => ?_)
          · exact absurd c51 (by omega)
          · refine k_aload_n rfl rfl ?_
            refine k_cV0 rfl cw_S_giveBestHour wd_253 (sc_o S3) rfl (by decide) (Nat.le_of_ble_eq_true rfl) ?_
            refine c_S_giveBestHour P3 I (fun l k1 => Nat.le_trans (hb l k1) (by omega)) G3 (fun en => ?_) (fun l k1 es hl1 hk1 h4 x4 P4 G4 => ?_)
            rotate_left
            · refine k_if_eq rfl (fun c58 => ?_) (fun c58 => ?_)
              · exact absurd c58 (by decide)
              refine k_incN2 rfl rfl ?_
              refine k_goto rfl ?_
              refine ih (k + 1) (bmp F l k1) h4 (by omega) (fr_tr hF3 x4) P4 G4 (bmp_le hb) (by rw [sz_bmp s F hk1, if_pos hl1, hz]) (e.trans ?_)
              simp only [shF]
              rw [es]
              have d1 : (40 * l + k1) / 40 = l := by omega
              have d2 : (40 * l + k1) % 40 = k1 := by omega
              show shF s q (bmp F ((40 * l + k1) / 40) ((40 * l + k1) % 40)) = _
              rw [d1, d2]
            have e8 : shF s (q + 1) F = F := by simp only [shF]; rw [en]
            refine k_if_eq rfl (fun c58 => ?_) (fun c58 => ?_)
            · refine k_iload_n rfl rfl ?_
              refine k_iret rfl rfl (Nat.le_refl _) (Nat.le_refl _) ?_
              exact fin k F h3 hF3 P3 hz (e.trans e8)
            · exact absurd rfl c58
      · exact absurd c25 (by omega)
    | succ q ih =>
      intro i h2 hi hF P2 G2
      have hit : i < s_told s := by omega
      have hpi := (pc_m P2).1 i (by omega)
      have S2 := pc_S P2
      have hT2 : hp_i h2 o 2 = nI (s_told s) := pc_told (s := zeroP s) P2
      refine k_iload_n rfl rfl ?_
      refine k_aload_n rfl rfl ?_
      refine k_gI rfl rfl (sc_o S2) hT2 ?_
      refine kn_ge rfl (by omega) (by omega) (fun c25 => ?_) (fun c25 => ?_)
      · exact absurd c25 (by omega)
      · refine k_aload_n rfl rfl ?_
        refine k_getR rfl rfl (sc_o S2) (sc_told S2) ?_
        refine k_iload_n rfl rfl ?_
        refine k_aald (q := ca o (p i)) rfl (sc_a2 S2) rfl (by decide) rfl (show i < 40 by omega) (by decide) (pc_r P2 i (by omega)) ?_
        refine k_aload_n rfl rfl ?_
        refine k_getR rfl rfl (sc_o S2) (sc_rates S2) ?_
        refine k_cVN1 rfl cw_C_reckonGains (nsM (i := 5) rfl) (sc_c S2 (p i) hpi).1 rfl (by decide) (Nat.le_of_ble_eq_true rfl) ?_
        refine c_C_reckonGains (f := fun _ => 0) (i := i) I (show cB g h2 o s (p i) i from cB_of P2 (show i < s_told (zeroP s) from hit)) (fun l hl => (pc_t P2 i hit).2.2.2.2.1 l hl) (fun _ => by omega) (fun h3 x3 hi3 hr3 hg3 hj3 => ?_)
        refine k_incN2 rfl rfl ?_
        refine k_goto rfl ?_
        refine ih (i + 1) h3 (by omega) (fr_tr hF (fr_mono x3 (fun a z => ⟨by unfold ca at z; omega, by unfold ca at z; omega⟩))) (pc_uj P2 (fr_mono x3 (fun a z => ⟨by unfold ca at z; omega, by unfold ca at z; omega⟩)) hi3 hr3 (hj3 o (by unfold ca; omega)) (hj3 _ (by unfold ca; omega))) (fun i1 hi1 l hl => ?_)
        by_cases e : i1 = i
        · rw [e]; exact hg3 l hl
        · rw [hj3 _ (fun z => e (pm_ca (k := 5) (pc_m P2) (by omega) (by omega) z))]
          exact G2 i1 (by omega) l hl
  · refine k_iconst (v := -1) rfl (by decide) ?_
    refine k_iret rfl rfl (Nat.le_refl _) (Nat.le_refl _) ?_
    rw [if_pos (by
      by_cases z : n < 0
      · exact Or.inl z
      · refine Or.inr (Int32.not_le.mp (fun y => ?_))
        obtain ⟨k0, hk0, ek0⟩ := nI_of z
        rw [ek0] at y c9
        have := (nI_leI hk0 (by decide)).mp y
        rw [isc_t (nI_pos hk0) (nI_lt (show k0 < 100 + 1 by omega) (by decide))] at c9
        cases c9)] at hQ
    exact hQ h p fr_rf P
