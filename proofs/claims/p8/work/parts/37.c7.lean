section TSW
variable {g : Gx} {M : Md} {R : Room} {Z : Zx} {kc ks : Nat} {h : Hp} {pc : Nat} {L : List (Option Value)} {st : List Value}
theorem k_tswO {n x0 y0 len tgt : Nat} {dflt lo hi : Int} {offs : Array Int} {x : Int32} (hf : md_f M pc = some (.tableswitch dflt lo hi offs, len, n, x0, y0)) (h1 : x.toInt < lo ∨ hi < x.toInt) (ht : (pc : Int) + dflt = (tgt : Int)) (k : Ok g M R Z kc ks h tgt L st) : Ok g M R Z kc ks h pc L (.int x :: st) := by
  intro p e s m args below meth c H locs ls C hW hF hl
  obtain ⟨hd, hn, -⟩ := md_dec C.2.2.2.2.2.2.2.2.2.2 hf
  exact lv_tableOut C.1 C.2.1 hd h1 ht (k p e s m args below meth c H locs ls C hW hF hl)
theorem k_tswI {n x0 y0 len tgt : Nat} {dflt lo hi off : Int} {offs : Array Int} {x : Int32} (hf : md_f M pc = some (.tableswitch dflt lo hi offs, len, n, x0, y0)) (h1 : ¬ x.toInt < lo) (h2 : ¬ hi < x.toInt) (ho : offs[(x.toInt - lo).toNat]? = some off) (ht : (pc : Int) + off = (tgt : Int)) (k : Ok g M R Z kc ks h tgt L st) : Ok g M R Z kc ks h pc L (.int x :: st) := by
  intro p e s m args below meth c H locs ls C hW hF hl
  obtain ⟨hd, hn, -⟩ := md_dec C.2.2.2.2.2.2.2.2.2.2 hf
  exact lv_tableIn C.1 C.2.1 hd h1 h2 ho ht (k p e s m args below meth c H locs ls C hW hF hl)
end TSW
/-- of two looks the one told later has the greater place -/
theorem bfL_lt {s : St} {a b : Nat} (h : s_gt s a < s_gt s b ∨ (s_gt s a = s_gt s b ∧ a < b)) : ∀ n, bfL s a n + (if a < n then 1 else 0) ≤ bfL s b n
  | 0 => by simp [bfL]
  | n + 1 => by
    have ih := bfL_lt h n
    simp only [bfL]
    by_cases e : n = a
    · subst e
      rw [if_neg (by omega), if_pos h, if_pos (by omega)]
      rw [if_neg (by omega)] at ih
      omega
    · have e2 : (if a < n + 1 then 1 else 0) = (if a < n then 1 else 0) := by
        by_cases z : a < n
        · rw [if_pos z, if_pos (by omega)]
        · rw [if_neg z, if_neg (by omega)]
      rw [e2]
      generalize (if a < n then 1 else 0) = u at ih ⊢
      by_cases z : s_gt s n < s_gt s a ∨ (s_gt s n = s_gt s a ∧ n < a)
      · rw [if_pos z, if_pos (show s_gt s n < s_gt s b ∨ (s_gt s n = s_gt s b ∧ n < b) by omega)]; omega
      · rw [if_neg z]; split <;> omega
theorem bfL_inj {s : St} {a b n : Nat} (ha : a < n) (hb : b < n) (e : bfL s a n = bfL s b n) : a = b := by
  refine Decidable.byContradiction (fun z => ?_)
  by_cases h : s_gt s a < s_gt s b ∨ (s_gt s a = s_gt s b ∧ a < b)
  · have := bfL_lt h n
    rw [if_pos ha] at this
    omega
  · have := bfL_lt (s := s) (a := b) (b := a) (by omega) n
    rw [if_pos hb] at this
    omega
theorem bfL_gt {s : St} {a b n : Nat} (hb : b < n) (e : bfL s a n < bfL s b n) : s_gt s a ≤ s_gt s b := by
  refine Nat.not_lt.mp (fun z => ?_)
  have := bfL_lt (s := s) (a := b) (b := a) (Or.inl z) n
  rw [if_pos hb] at this
  omega
theorem bfL_ltn {s : St} {a : Nat} : ∀ n, bfL s a n + (if a < n then 1 else 0) ≤ n
  | 0 => by simp [bfL]
  | n + 1 => by
    have ih := bfL_ltn (s := s) (a := a) n
    simp only [bfL]
    by_cases e : n = a
    · subst e
      rw [if_neg (by omega), if_pos (by omega)]
      rw [if_neg (by omega)] at ih
      omega
    · by_cases z : a < n
      · rw [if_pos z] at ih
        rw [if_pos (show a < n + 1 by omega)]
        split <;> omega
      · rw [if_neg z] at ih
        rw [if_neg (show ¬ a < n + 1 by omega)]
        split <;> omega
theorem lgF_of {s : St} {wh : Int32} {b n0 : Nat} (hK : s_lks s ≤ 200) (hb : b < s_lks s) (e : bfL s b (s_lks s) = n0) : ∀ q i, i + q = s_lks s → i ≤ b → lgF s (nI n0) wh q i = lgN s b wh
  | 0, i, h1, h2 => by omega
  | q + 1, i, h1, h2 => by
    simp only [lgF]
    have hl := bfL_le s i (s_lks s)
    have hl2 := bfL_le s b (s_lks s)
    by_cases z : nI (bfL s i (s_lks s)) = nI n0
    · rw [if_pos z]
      have h3 := (nI_eq (by omega) (by omega)).mp z
      rw [← e] at h3
      rw [bfL_inj (by omega) hb h3]
    · rw [if_neg z]
      have h4 : i ≠ b := fun y => z (by rw [y, e])
      exact lgF_of hK hb e q (i + 1) (by omega) (by omega)
theorem c_S_log {g : Gx} {h : Hp} {o d : Nat} {p : Nat → Nat} {s : St} {Q : Option Value → Hp → Prop} (P : PC g h o p s) (I : Inv s) (n wh : Int32) (hQ : Q (some (.int (lgS s n wh))) h) : Ct g M_S_log (d + 1) 0 0 [.ref o, .int n, .int wh] h Q := by
  have S := pc_S P
  have bT := v_told I
  have bL := v_lkr I
  refine ct_of ok_S_log (by decide) (Nat.le_of_ble_eq_true rfl) [some (.ref o), some (.int n), some (.int wh), none] rfl rfl ?_
  have bK := v_lks I
  unfold lgS at hQ
  refine k_iload_n rfl rfl ?_
  refine k_i2l rfl ?_
  refine k_lconst (v := lN 0) rfl (by decide) ?_
  refine k_aload_n rfl rfl ?_
  refine k_getR rfl rfl (sc_o S) (sc_looks S) ?_
  refine k_gI rfl rfl (sc_g S).1 (pc_g P).1 ?_
  refine k_iconst (v := nI 1) rfl (by decide) ?_
  refine k_isub rfl ?_
  refine k_i2l rfl ?_
  refine k_cS3 rfl cw_S_isWithin wd_161 (by decide) (Nat.le_of_ble_eq_true rfl) ?_
  refine c_S_isWithin _ _ _ ?_
  rw [wi_isc (by omega)]
  refine kb_ne rfl (fun c16 => ?_) (fun c16 => ?_)
  · obtain ⟨n0, hn0, en, enc⟩ := isc_of (by omega) c16
    obtain ⟨b, hb, eb0, eb⟩ := (pc_g P).2.2 n0 hn0
    rw [c16] at hQ
    subst en
    refine k_aload_n rfl rfl ?_
    refine k_getR rfl rfl (sc_o S) (sc_looks S) ?_
    refine k_getR rfl rfl (sc_g S).1 (sc_g S).2.2.2.2.2.2.2.2.2.2 ?_
    refine k_iload_n rfl rfl ?_
    refine k_iA rfl (sc_g S).2.2.2.2.2.1 rfl (by omega) (by decide) eb0 ?_
    refine k_ist3 rfl rfl ?_
    refine k_iload_n rfl rfl ?_
    by_cases w0 : wh.toInt < 0 ∨ 3 < wh.toInt
    · refine k_tswO rfl w0 rfl ?_
      refine k_iconst (v := -1) rfl (by decide) ?_
      refine k_iret rfl rfl (Nat.le_refl _) (Nat.le_refl _) ?_
      have e9 : isc 4 wh = false := by
        unfold isc
        rcases w0 with z | z
        · rw [decide_eq_false (fun y => by rw [Int32.le_iff_toInt_le] at y; have : (0 : Int32).toInt = 0 := by decide
                                           omega), Bool.false_and]
        · rw [decide_eq_false (p := wh < 4) (fun y => by rw [Int32.lt_iff_toInt_lt] at y; have : (4 : Int32).toInt = 4 := by decide
                                                         omega), Bool.and_false]
      rw [e9, Bool.and_false] at hQ
      exact hQ
    · have w1 : ¬ wh.toInt < 0 := fun z => w0 (Or.inl z)
      have w2 : ¬ 3 < wh.toInt := fun z => w0 (Or.inr z)
      have w3 : wh = 0 ∨ wh = 1 ∨ wh = 2 ∨ wh = 3 := by
        have w4 : wh.toInt = (0 : Int32).toInt ∨ wh.toInt = (1 : Int32).toInt ∨ wh.toInt = (2 : Int32).toInt ∨ wh.toInt = (3 : Int32).toInt := by
          have e0 : (0 : Int32).toInt = 0 := by decide
          have e1 : (1 : Int32).toInt = 1 := by decide
          have e2 : (2 : Int32).toInt = 2 := by decide
          have e3 : (3 : Int32).toInt = 3 := by decide
          rw [e0, e1, e2, e3]; omega
        rcases w4 with z | z | z | z
        · exact Or.inl (Int32.toInt_inj.mp z)
        · exact Or.inr (Or.inl (Int32.toInt_inj.mp z))
        · exact Or.inr (Or.inr (Or.inl (Int32.toInt_inj.mp z)))
        · exact Or.inr (Or.inr (Or.inr (Int32.toInt_inj.mp z)))
      rcases w3 with e | e | e | e
      · subst e
        rw [show isc 4 0 = true by decide +kernel, Bool.true_and] at hQ
        refine k_tswI (off := 32) rfl (by decide) (by decide) (by decide) (tgt := 64) (by decide) ?_
        rw [cond_true, lgF_of bK hb eb (s_lks s) 0 (Nat.zero_add _) (Nat.zero_le _)] at hQ
        refine k_aload_n rfl rfl ?_
        refine k_getR rfl rfl (sc_o S) (sc_looks S) ?_
        refine k_getR rfl rfl (sc_g S).1 (sc_g S).2.2.2.2.2.2.1 ?_
        refine k_iload_n rfl rfl ?_
        refine k_iA rfl (sc_g S).2.1 rfl (by omega) (by decide) ((pc_g P).2.1 b hb).1 ?_
        refine k_iret rfl rfl (Nat.le_refl _) (Nat.le_refl _) ?_
        exact hQ
      · subst e
        rw [show isc 4 1 = true by decide +kernel, Bool.true_and] at hQ
        refine k_tswI (off := 42) rfl (by decide) (by decide) (by decide) (tgt := 74) (by decide) ?_
        rw [cond_true, lgF_of bK hb eb (s_lks s) 0 (Nat.zero_add _) (Nat.zero_le _)] at hQ
        refine k_aload_n rfl rfl ?_
        refine k_getR rfl rfl (sc_o S) (sc_looks S) ?_
        refine k_getR rfl rfl (sc_g S).1 (sc_g S).2.2.2.2.2.2.2.1 ?_
        refine k_iload_n rfl rfl ?_
        refine k_iA rfl (sc_g S).2.2.1 rfl (by omega) (by decide) ((pc_g P).2.1 b hb).2.1 ?_
        refine k_iret rfl rfl (Nat.le_refl _) (Nat.le_refl _) ?_
        exact hQ
      · subst e
        rw [show isc 4 2 = true by decide +kernel, Bool.true_and] at hQ
        refine k_tswI (off := 52) rfl (by decide) (by decide) (by decide) (tgt := 84) (by decide) ?_
        rw [cond_true, lgF_of bK hb eb (s_lks s) 0 (Nat.zero_add _) (Nat.zero_le _)] at hQ
        refine k_aload_n rfl rfl ?_
        refine k_getR rfl rfl (sc_o S) (sc_looks S) ?_
        refine k_getR rfl rfl (sc_g S).1 (sc_g S).2.2.2.2.2.2.2.2.1 ?_
        refine k_iload_n rfl rfl ?_
        refine k_iA rfl (sc_g S).2.2.2.1 rfl (by omega) (by decide) ((pc_g P).2.1 b hb).2.2.1 ?_
        refine k_iret rfl rfl (Nat.le_refl _) (Nat.le_refl _) ?_
        exact hQ
      · subst e
        rw [show isc 4 3 = true by decide +kernel, Bool.true_and] at hQ
        refine k_tswI (off := 62) rfl (by decide) (by decide) (by decide) (tgt := 94) (by decide) ?_
        rw [cond_true, lgF_of bK hb eb (s_lks s) 0 (Nat.zero_add _) (Nat.zero_le _)] at hQ
        refine k_iload_n rfl rfl ?_
        refine k_iret rfl rfl (Nat.le_refl _) (Nat.le_refl _) ?_
        exact hQ
  · refine k_iconst (v := -1) rfl (by decide) ?_
    refine k_iret rfl rfl (Nat.le_refl _) (Nat.le_refl _) ?_
    rw [c16] at hQ; exact hQ
def cnL (f : Nat → Nat) (k : Nat) : Nat → Nat
  | 0 => 0
  | i + 1 => cnL f k i + (if f i < k then 1 else 0)
def cnE (f : Nat → Nat) (k : Nat) : Nat → Nat
  | 0 => 0
  | i + 1 => cnE f k i + (if f i = k then 1 else 0)
theorem cnL_0 (f : Nat → Nat) : ∀ n, cnL f 0 n = 0
  | 0 => rfl
  | n + 1 => by simp only [cnL]; rw [cnL_0 f n, if_neg (Nat.not_lt_zero _)]
theorem cnL_s (f : Nat → Nat) (k : Nat) : ∀ n, cnL f (k + 1) n = cnL f k n + cnE f k n
  | 0 => rfl
  | n + 1 => by
    simp only [cnL, cnE]
    rw [cnL_s f k n]
    rcases Nat.lt_trichotomy (f n) k with z | z | z
    · rw [if_pos (by omega), if_pos z, if_neg (by omega)]; omega
    · rw [if_pos (by omega), if_neg (by omega), if_pos z]; omega
    · rw [if_neg (by omega), if_neg (by omega), if_neg (by omega)] <;> omega
theorem cnE_1 {f : Nat → Nat} {k b n : Nat} (hb : b < n) (e : f b = k) (inj : ∀ i j, i < n → j < n → f i = f j → i = j) : ∀ m, m ≤ n → cnE f k m = if b < m then 1 else 0
  | 0, _ => by rw [if_neg (Nat.not_lt_zero _)]; rfl
  | m + 1, h => by
    simp only [cnE]
    rw [cnE_1 hb e inj m (by omega)]
    by_cases z : m = b
    · rw [z, if_neg (Nat.lt_irrefl b), if_pos e, if_pos (by omega)]
    · rw [if_neg (c := f m = k) (fun y => z (inj m b (by omega) hb (by rw [y, e])))]
      by_cases y : b < m
      · rw [if_pos y, if_pos (by omega)]
      · rw [if_neg y, if_neg (by omega)]
theorem cnL_k {f : Nat → Nat} {n : Nat} (sur : ∀ q, q < n → ∃ b, b < n ∧ f b = q) (inj : ∀ i j, i < n → j < n → f i = f j → i = j) : ∀ k, k ≤ n → cnL f k n = k
  | 0, _ => cnL_0 f n
  | k + 1, h => by
    obtain ⟨b, hb, e⟩ := sur k (by omega)
    rw [cnL_s, cnL_k sur inj k (by omega), cnE_1 hb e inj n (Nat.le_refl _), if_pos hb]
theorem bfL_cong {s s1 : St} {b : Nat} : ∀ n, (∀ i, i < n → s_gt s1 i = s_gt s i) → s_gt s1 b = s_gt s b → bfL s1 b n = bfL s b n
  | 0, _, _ => rfl
  | n + 1, h, e => by
    simp only [bfL]
    rw [bfL_cong n (fun i hi => h i (by omega)) e, h n (by omega), e]
theorem bfL_cnt {s s1 : St} {b k : Nat} {f : Nat → Nat} : ∀ n, (∀ i, i < n → (s_gt s1 i < s_gt s1 b ∨ (s_gt s1 i = s_gt s1 b ∧ i < b) ↔ f i < k)) → bfL s1 b n = cnL f k n
  | 0, _ => rfl
  | n + 1, h => by
    simp only [bfL, cnL]
    rw [bfL_cnt (s := s) n (fun i hi => h i (by omega))]
    by_cases z : f n < k
    · rw [if_pos z, if_pos ((h n (by omega)).mpr z)]
    · rw [if_neg z, if_neg (fun y => z ((h n (by omega)).mp y))]
/-- the new look in its place among the others -/
theorem ins_log {s s1 : St} {n k t : Nat} {B : Nat → Nat} (en : s_lks s = n) (hg : ∀ i, i < n → s_gt s1 i = s_gt s i) (hgn : s_gt s1 n = t) (hB : ∀ q, q < n → B q < n ∧ bfL s (B q) n = q) (hk : k ≤ n) (hlo : 0 < k → s_gt s (B (k - 1)) ≤ t) (hhi : ∀ q, k ≤ q → q < n → t < s_gt s (B q)) :
    (∀ q, q < k → bfL s1 (B q) (n + 1) = q) ∧ bfL s1 n (n + 1) = k ∧ ∀ q, k ≤ q → q < n → bfL s1 (B q) (n + 1) = q + 1 := by
  have inj : ∀ i j, i < n → j < n → bfL s i n = bfL s j n → i = j := fun i j hi hj e => bfL_inj hi hj e
  refine ⟨fun q hq => ?_, ?_, fun q h1 h2 => ?_⟩
  · obtain ⟨h3, h4⟩ := hB q (by omega)
    obtain ⟨h5, h6⟩ := hB (k - 1) (by omega)
    have h7 : s_gt s (B q) ≤ t := by
      by_cases z : q = k - 1
      · rw [z]; exact hlo (by omega)
      · exact Nat.le_trans (bfL_gt h5 (by omega)) (hlo (by omega))
    simp only [bfL]
    rw [bfL_cong (s := s) n hg (hg _ h3), h4, hgn, hg _ h3, if_neg (by omega), Nat.add_zero]
  · simp only [bfL]
    rw [if_neg (by omega), Nat.add_zero, bfL_cnt (s := s) (f := fun i => bfL s i n) (k := k) n (fun i hi => ?_)]
    · exact cnL_k (fun q hq => ⟨B q, (hB q hq).1, (hB q hq).2⟩) inj k hk
    · rw [hgn, hg i hi]
      have hin := bfL_ltn (s := s) (a := i) n
      rw [if_pos hi] at hin
      constructor
      · intro z
        refine Nat.not_le.mp (fun y => ?_)
        obtain ⟨h5, h6⟩ := hB (bfL s i n) (by omega)
        have h7 := inj _ _ h5 hi h6
        have h8 := hhi (bfL s i n) y (by omega)
        rw [h7] at h8
        omega
      · intro z
        have z : bfL s i n < k := z
        obtain ⟨h5, h6⟩ := hB (k - 1) (by omega)
        have h7 : s_gt s i ≤ t := by
          by_cases y : bfL s i n = k - 1
          · have := inj _ _ hi h5 (by rw [y, h6])
            rw [this]; exact hlo (by omega)
          · exact Nat.le_trans (bfL_gt h5 (by omega)) (hlo (by omega))
        omega
  · obtain ⟨h3, h4⟩ := hB q h2
    have h5 := hhi q h1 h2
    simp only [bfL]
    rw [bfL_cong (s := s) n hg (hg _ h3), h4, hgn, hg _ h3, if_pos (Or.inl h5)]
def inG (o a : Nat) : Prop := o + 252 ≤ a ∧ a < o + 258
theorem c_G_add {g : Gx} {h : Hp} {o d l k q t : Nat} {s : St} {Q : Option Value → Hp → Prop} (S : ShC g h o) (G : gT h o s) (hn : s_lks s < 200) (hlog : ∀ q, q < s_lks s → s_gt s q < 2 ^ 63) (ht : t < 2 ^ 63) (hQ : ∀ h1, hp_fr (inG o) h h1 → hp_r h1 = hp_r h → gT h1 o (lkT s l k q t) → Q (some (.int (nI (s_lks s)))) h1) : Ct g M_G_add d 0 0 [.ref (o + 252), .int (nI l), .int (nI (s_num s k)), .int (nI q), .long (lN t)] h Q := by
  refine ct_of ok_G_add (by decide) (Nat.le_of_ble_eq_true rfl) [some (.ref (o + 252)), some (.int (nI l)), some (.int (nI (s_num s k))), some (.int (nI q)), some (.long (lN t)), none, none, none] rfl rfl ?_
  obtain ⟨n, en⟩ : ∃ n, n = s_lks s := ⟨_, rfl⟩
  obtain ⟨g1, g2, g3⟩ := id G
  rw [← en] at g1 g2 g3 hn hlog hQ
  obtain ⟨B, hB⟩ : ∃ B : Nat → Nat, ∀ q, q < n → B q < n ∧ hp_i h (o + 257) q = nI (B q) ∧ bfL s (B q) n = q := ⟨fun q => (hp_i h (o + 257) q).toNatClampNeg, fun q hq => by
    obtain ⟨b, b1, b2, b3⟩ := g3 q hq
    have e : (hp_i h (o + 257) q).toNatClampNeg = b := by rw [b2]; exact nI_clamp (by omega)
    show (hp_i h (o + 257) q).toNatClampNeg < n ∧ hp_i h (o + 257) q = nI (hp_i h (o + 257) q).toNatClampNeg ∧ bfL s (hp_i h (o + 257) q).toNatClampNeg n = q
    rw [e]; exact ⟨b1, b2, b3⟩⟩
  refine k_aload_n rfl rfl ?_
  refine k_gI rfl rfl (sc_g S).1 g1 ?_
  refine k_sipush (v := nI 200) rfl (by decide) ?_
  refine kn_lt rfl (by omega) (by omega) (fun c7 => ?_) (fun c7 => ?_)
  · refine k_aload_n rfl rfl ?_
    refine k_gI rfl rfl (sc_g S).1 g1 ?_
    refine k_ist6 rfl rfl ?_
    refine k_aload_n rfl rfl ?_
    refine k_getR rfl rfl (sc_g S).1 (sc_g S).2.2.2.2.2.2.1 ?_
    refine k_iload rfl rfl ?_
    refine k_iload_n rfl rfl ?_
    refine k_iS rfl (sc_g S).2.1 rfl (by omega) (by decide) ?_
    refine k_aload_n rfl rfl ?_
    refine k_getR rfl rfl (sc_g S).1 (sc_g S).2.2.2.2.2.2.2.1 ?_
    refine k_iload rfl rfl ?_
    refine k_iload_n rfl rfl ?_
    refine k_iS rfl (sc_g S).2.2.1 rfl (by omega) (by decide) ?_
    refine k_aload_n rfl rfl ?_
    refine k_getR rfl rfl (sc_g S).1 (sc_g S).2.2.2.2.2.2.2.2.1 ?_
    refine k_iload rfl rfl ?_
    refine k_iload_n rfl rfl ?_
    refine k_iS rfl (sc_g S).2.2.2.1 rfl (by omega) (by decide) ?_
    refine k_aload_n rfl rfl ?_
    refine k_getR rfl rfl (sc_g S).1 (sc_g S).2.2.2.2.2.2.2.2.2.1 ?_
    refine k_iload rfl rfl ?_
    refine k_lload rfl rfl ?_
    refine k_lS rfl (sc_g S).2.2.2.2.1 rfl (by omega) (by decide) ?_
    refine k_iload rfl rfl ?_
    refine k_ist7 rfl rfl ?_
    have J : ∀ (x : Nat) (h1 : Hp), x ≤ n → hp_fr (inG o) h h1 → hp_r h1 = hp_r h → hp_j h1 = hp_j (hp_uj (hp_ui (hp_ui (hp_ui h (o + 253) n (nI l)) (o + 254) n (nI (s_num s k))) (o + 255) n (nI q)) (o + 256) n (lN t)) → (∀ a j, a ≠ o + 257 → hp_i h1 a j = hp_i (hp_uj (hp_ui (hp_ui (hp_ui h (o + 253) n (nI l)) (o + 254) n (nI (s_num s k))) (o + 255) n (nI q)) (o + 256) n (lN t)) a j) → (∀ y, y < x → hp_i h1 (o + 257) y = nI (B y)) → (∀ y, x < y → y ≤ n → hp_i h1 (o + 257) y = nI (B (y - 1)) ∧ t < s_gt s (B (y - 1))) → (0 < x → s_gt s (B (x - 1)) ≤ t) → Om g M_G_add d Q h1 102 [some (.ref (o + 252)), some (.int (nI l)), some (.int (nI (s_num s k))), some (.int (nI q)), some (.long (lN t)), none, some (.int (nI n)), some (.int (nI x))] [] := by
      intro x h1 hx hF hr hj E lo hi hle
      have S1 := sc_fr S hF (fun a _ _ k => by rw [hr])
      have hsz : hp_i h1 (o + 252) 5 = nI n := by rw [E _ _ (by omega), i_uj, i_ui, if_neg (by omega), i_ui, if_neg (by omega), i_ui, if_neg (by omega)]; exact g1
      refine k_aload_n rfl rfl ?_
      refine k_getR rfl rfl (sc_g S1).1 (sc_g S1).2.2.2.2.2.2.2.2.2.2 ?_
      refine k_iload rfl rfl ?_
      refine k_iload rfl rfl ?_
      refine k_iS rfl (sc_g S1).2.2.2.2.2.1 rfl (by omega) (by decide) ?_
      refine k_aload_n rfl rfl ?_
      refine k_dup rfl rfl ?_
      refine k_gI (x := nI n) rfl rfl (sc_g S1).1 (by rw [i_ui, if_neg (by omega)]; exact hsz) ?_
      refine k_iconst (v := nI 1) rfl (by decide) ?_
      refine k_iaddN rfl ?_
      refine k_putI rfl rfl rfl (sc_g S1).1 ?_
      refine k_iload rfl rfl ?_
      refine k_iret rfl rfl (Nat.le_refl _) (Nat.le_refl _) ?_
      have hgn : s_gt (lkT s l k q t) n = t := by show va_up (s_gt s) (s_lks s) t n = t; rw [en, va_up_self]
      have hg : ∀ i, i < n → s_gt (lkT s l k q t) i = s_gt s i := fun i hi => by show va_up (s_gt s) (s_lks s) t i = _; rw [va_up_ne _ _ (by omega)]
      obtain ⟨r1, r2, r3⟩ := ins_log (s := s) (s1 := lkT s l k q t) (B := B) (k := x) en.symm hg hgn (fun q hq => ⟨(hB q hq).1, (hB q hq).2.2⟩) hx hle (fun y h5 h6 => (hi (y + 1) (by omega) (by omega)).2)
      have eI : ∀ a j, a ≠ o + 257 → ¬ (a = o + 252 ∧ j = 5) → hp_i (hp_ui (hp_ui h1 (o + 257) x (nI n)) (o + 252) 5 (nI (n + 1))) a j = hp_i (hp_uj (hp_ui (hp_ui (hp_ui h (o + 253) n (nI l)) (o + 254) n (nI (s_num s k))) (o + 255) n (nI q)) (o + 256) n (lN t)) a j := fun a j z1 z2 => by rw [i_ui, if_neg z2, i_ui, if_neg (fun y => z1 y.1)]; exact E a j z1
      have eJ : hp_j (hp_ui (hp_ui h1 (o + 257) x (nI n)) (o + 252) 5 (nI (n + 1))) = hp_j (hp_uj (hp_ui (hp_ui (hp_ui h (o + 253) n (nI l)) (o + 254) n (nI (s_num s k))) (o + 255) n (nI q)) (o + 256) n (lN t)) := hj
      refine hQ (hp_ui (hp_ui h1 (o + 257) x (nI n)) (o + 252) 5 (nI (n + 1))) (fr_tr hF (fr_tr (fr_ui ⟨by omega, by omega⟩) (fr_ui ⟨by omega, by omega⟩))) hr ⟨?_, fun y hy => ?_, fun y hy => ?_⟩
      · show _ = nI (s_lks s + 1)
        rw [i_ui, if_pos ⟨rfl, rfl⟩, en]
      · have hy : y < s_lks s + 1 := hy
        rw [eI _ _ (by omega) (by omega), eI _ _ (by omega) (by omega), eI _ _ (by omega) (by omega), eJ]
        show _ = nI (va_up (s_gl s) (s_lks s) l y) ∧ _ = nI (va_up (s_gc s) (s_lks s) (s_num s k) y) ∧ _ = nI (va_up (s_gh s) (s_lks s) q y) ∧ _ = lN (va_up (s_gt s) (s_lks s) t y)
        by_cases e : y = n
        · rw [e, en, va_up_self, va_up_self, va_up_self, va_up_self, i_uj, j_uj, if_pos ⟨rfl, rfl⟩, i_ui, if_neg (by omega), i_ui, if_neg (by omega), i_ui, if_pos ⟨rfl, rfl⟩]
          refine ⟨rfl, ?_, ?_, rfl⟩
          · rw [i_ui, if_neg (by omega), i_ui, if_pos ⟨rfl, rfl⟩]
          · rw [i_ui, if_pos ⟨rfl, rfl⟩]
        · have e1 : y ≠ s_lks s := by omega
          rw [va_up_ne _ _ e1, va_up_ne _ _ e1, va_up_ne _ _ e1, va_up_ne _ _ e1, i_uj, j_uj, if_neg (fun z => e z.2)]
          simp only [i_ui, j_ui]
          rw [if_neg (by omega), if_neg (by omega), if_neg (by omega), if_neg (by omega), if_neg (by omega), if_neg (by omega), if_neg (by omega), if_neg (by omega), if_neg (by omega)]
          exact g2 y (by omega)
      · have hy : y < s_lks s + 1 := hy
        show ∃ b, b < s_lks s + 1 ∧ _ ∧ bfL (lkT s l k q t) b (s_lks s + 1) = y
        rw [← en]
        rcases Nat.lt_trichotomy y x with z | z | z
        · exact ⟨B y, by have := (hB y (by omega)).1; omega, by rw [i_ui, if_neg (by omega), i_ui, if_neg (by omega)]; exact lo y z, r1 y z⟩
        · exact ⟨n, by omega, by rw [z, i_ui, if_neg (by omega), i_ui, if_pos ⟨rfl, rfl⟩], by rw [r2, z]⟩
        · exact ⟨B (y - 1), by have := (hB (y - 1) (by omega)).1; omega, by rw [i_ui, if_neg (by omega), i_ui, if_neg (by omega)]; exact (hi y z (by omega)).1, by rw [r3 (y - 1) (by omega) (by omega)]; omega⟩
    suffices H : ∀ (x : Nat) (h1 : Hp), x ≤ n → hp_fr (inG o) h h1 → hp_r h1 = hp_r h → hp_j h1 = hp_j (hp_uj (hp_ui (hp_ui (hp_ui h (o + 253) n (nI l)) (o + 254) n (nI (s_num s k))) (o + 255) n (nI q)) (o + 256) n (lN t)) → (∀ a j, a ≠ o + 257 → hp_i h1 a j = hp_i (hp_uj (hp_ui (hp_ui (hp_ui h (o + 253) n (nI l)) (o + 254) n (nI (s_num s k))) (o + 255) n (nI q)) (o + 256) n (lN t)) a j) → (∀ y, y < x → hp_i h1 (o + 257) y = nI (B y)) → (∀ y, x < y → y ≤ n → hp_i h1 (o + 257) y = nI (B (y - 1)) ∧ t < s_gt s (B (y - 1))) →  Om g M_G_add d Q h1 55 [some (.ref (o + 252)), some (.int (nI l)), some (.int (nI (s_num s k))), some (.int (nI q)), some (.long (lN t)), none, some (.int (nI n)), some (.int (nI x))] [] from
      H n _ (Nat.le_refl _) (fr_tr (fr_tr (fr_tr (fr_ui ⟨by omega, by omega⟩) (fr_ui ⟨by omega, by omega⟩)) (fr_ui ⟨by omega, by omega⟩)) (fr_uj ⟨by omega, by omega⟩)) rfl rfl (fun _ _ _ => rfl) (fun y hy => by
        rw [i_uj, i_ui, if_neg (by omega), i_ui, if_neg (by omega), i_ui, if_neg (by omega)]; exact (hB y hy).2.1) (fun y h5 h6 => absurd h6 (by omega))
    intro x
    induction x with
    | zero =>
      intro h1 hx hF hr hj E lo hi
      refine k_iload rfl rfl ?_
      refine k_if_le rfl (fun c57 => ?_) (fun c57 => ?_)
      · exact J 0 h1 hx hF hr hj E lo hi (fun z => absurd z (Nat.lt_irrefl 0))
      · exact absurd (show nI 0 ≤ 0 by decide) c57
    | succ x ih =>
      intro h1 hx hF hr hj E lo hi
      have S1 := sc_fr S hF (fun a _ _ k => by rw [hr])
      obtain ⟨b1, b2, b3⟩ := hB x (by omega)
      have hgb := hlog (B x) b1
      have ht1 : hp_j h1 (o + 256) (B x) = lN (s_gt s (B x)) := by
        rw [hj, j_uj, if_neg (by omega)]
        exact (g2 (B x) b1).2.2.2
      refine k_iload rfl rfl ?_
      refine k_if_le rfl (fun c57 => ?_) (fun c57 => ?_)
      · exact absurd ((nI_leI (b := 0) (by omega) (by decide)).mp c57) (by omega)
      · refine k_aload_n rfl rfl ?_
        refine k_getR rfl rfl (sc_g S1).1 (sc_g S1).2.2.2.2.2.2.2.2.2.1 ?_
        refine k_aload_n rfl rfl ?_
        refine k_getR rfl rfl (sc_g S1).1 (sc_g S1).2.2.2.2.2.2.2.2.2.2 ?_
        refine k_iload rfl rfl ?_
        refine k_iconst (v := 1) rfl (by decide) ?_
        refine k_isub rfl ?_
        rw [nI_pred]
        refine k_iA rfl (sc_g S1).2.2.2.2.2.1 rfl (show x < 200 by omega) (by decide) (lo x (by omega)) ?_
        refine k_lA rfl (sc_g S1).2.2.2.2.1 rfl (show B x < 200 by omega) (by decide) ht1 ?_
        refine k_lload rfl rfl ?_
        refine klN_le rfl rfl hgb ht (fun c76 => ?_) (fun c76 => ?_)
        · exact J (x + 1) h1 hx hF hr hj E lo hi (fun _ => c76)
        · refine k_aload_n rfl rfl ?_
          refine k_getR rfl rfl (sc_g S1).1 (sc_g S1).2.2.2.2.2.2.2.2.2.2 ?_
          refine k_iload rfl rfl ?_
          refine k_aload_n rfl rfl ?_
          refine k_getR rfl rfl (sc_g S1).1 (sc_g S1).2.2.2.2.2.2.2.2.2.2 ?_
          refine k_iload rfl rfl ?_
          refine k_iconst (v := 1) rfl (by decide) ?_
          refine k_isub rfl ?_
          rw [nI_pred]
          refine k_iA rfl (sc_g S1).2.2.2.2.2.1 rfl (show x < 200 by omega) (by decide) (lo x (by omega)) ?_
          refine k_iS rfl (sc_g S1).2.2.2.2.2.1 rfl (by omega) (by decide) ?_
          refine k_decN7 rfl rfl ?_
          refine k_goto rfl ?_
          refine ih _ (by omega) (fr_tr hF (fr_ui ⟨by omega, by omega⟩)) hr hj (fun a j z => by rw [i_ui, if_neg (fun y => z y.1)]; exact E a j z) (fun y hy => by rw [i_ui, if_neg (by omega)]; exact lo y (by omega)) (fun y h5 h6 => ?_)
          by_cases e : y = x + 1
          · rw [i_ui, if_pos ⟨rfl, e⟩, e, Nat.add_sub_cancel]; exact ⟨rfl, c76⟩
          · rw [i_ui, if_neg (fun z => e z.2)]; exact hi y (by omega) h6
  · exact absurd c7 (by omega)
theorem c_S_look {g : Gx} {h : Hp} {o d : Nat} {p : Nat → Nat} {s : St} {Q : Option Value → Hp → Prop} (P : PC g h o p s) (I : Inv s) (l c : Int32) (q t : Int64) (hQ : ∀ h1 p1, hp_fr (inC o) h h1 → PC g h1 o p1 (lkS s l c q t).2 → Q (some (.int ((lkS s l c q t).1))) h1) : Ct g M_S_look (d + 1) 0 0 [.ref o, .int l, .int c, .long q, .long t] h Q := by
  have S := pc_S P
  have bT := v_told I
  have bL := v_lkr I
  refine ct_of ok_S_look (by decide) (Nat.le_of_ble_eq_true rfl) [some (.ref o), some (.int l), some (.int c), some (.long q), none, some (.long t), none, none, none] rfl rfl ?_
  have bK := v_lks I
  have hcb := v_cells I
  unfold lkS at hQ
  cases hp : plS s c with
  | none =>
    rw [hp] at hQ
    refine k_aload_n rfl rfl ?_
    refine k_iload_n rfl rfl ?_
    refine k_cV1 rfl cw_S_placeOf wd_173 (sc_o S) rfl (by decide) (Nat.le_of_ble_eq_true rfl) ?_
    refine c_S_placeOf P I c ?_
    rw [hp]
    refine k_ist7 rfl rfl ?_
    refine k_aload_n rfl rfl ?_
    refine k_iload_n rfl rfl ?_
    refine k_cV1 rfl cw_S_isLooker wd_212 (sc_o S) rfl (by decide) (Nat.le_of_ble_eq_true rfl) ?_
    refine c_S_isLooker P I l ?_
    refine kb_eq rfl (fun c12 => ?_) (fun c12 => ?_)
    · refine k_iconst (v := -1) rfl (by decide) ?_
      refine k_iret rfl rfl (Nat.le_refl _) (Nat.le_refl _) ?_
      exact hQ h p fr_rf P
    · refine k_iload rfl rfl ?_
      refine k_iconst (v := -1) rfl (by decide) ?_
      refine k_icmp_eq rfl (fun c18 => ?_) (fun c18 => ?_)
      · refine k_iconst (v := -1) rfl (by decide) ?_
        refine k_iret rfl rfl (Nat.le_refl _) (Nat.le_refl _) ?_
        exact hQ h p fr_rf P
      · exact absurd rfl c18
  | some i =>
    have hk := plS_lt hp
    have hpi := (pc_m P).1 i (by omega)
    have hec : nI (s_num s i) = c := (plc_some _ _ _ hp).2.2
    rw [hp] at hQ
    simp only at hQ
    refine k_aload_n rfl rfl ?_
    refine k_iload_n rfl rfl ?_
    refine k_cV1 rfl cw_S_placeOf wd_173 (sc_o S) rfl (by decide) (Nat.le_of_ble_eq_true rfl) ?_
    refine c_S_placeOf P I c ?_
    rw [hp]
    refine k_ist7 rfl rfl ?_
    refine k_aload_n rfl rfl ?_
    refine k_iload_n rfl rfl ?_
    refine k_cV1 rfl cw_S_isLooker wd_212 (sc_o S) rfl (by decide) (Nat.le_of_ble_eq_true rfl) ?_
    refine c_S_isLooker P I l ?_
    refine kb_eq rfl (fun c12 => ?_) (fun c12 => ?_)
    · refine k_iconst (v := -1) rfl (by decide) ?_
      refine k_iret rfl rfl (Nat.le_refl _) (Nat.le_refl _) ?_
      rw [if_pos (Or.inl c12)] at hQ
      exact hQ h p fr_rf P
    · obtain ⟨l0, hl0, el, ecl⟩ := isc_of (by omega) c12
      refine k_iload rfl rfl ?_
      refine k_iconst (v := -1) rfl (by decide) ?_
      refine k_icmp_eq rfl (fun c18 => ?_) (fun c18 => ?_)
      · exact absurd c18 (nI_m1 (by omega))
      · refine k_aload_n rfl rfl ?_
        refine k_gI rfl rfl (sc_o S) (pc_seen P) ?_
        refine k_iconst (v := -1) rfl (by decide) ?_
        refine k_icmp_ne rfl (fun c26 => ?_) (fun c26 => ?_)
        · refine k_iconst (v := -1) rfl (by decide) ?_
          refine k_iret rfl rfl (Nat.le_refl _) (Nat.le_refl _) ?_
          rw [if_pos (Or.inr (Or.inl (fun z => c26 (by rw [z]; rfl))))] at hQ
          exact hQ h p fr_rf P
        · have hse : s_seen s = none := by
            cases hs : s_seen s with
            | none => rfl
            | some y => rw [hs] at c26; exact absurd c26 (nI_m1 (by have := v_seen I y hs; omega))
          refine k_aload_n rfl rfl ?_
          refine k_getR rfl rfl (sc_o S) (sc_looks S) ?_
          refine k_gI rfl rfl (sc_g S).1 (pc_g P).1 ?_
          refine k_sipush (v := nI 200) rfl (by decide) ?_
          refine kn_lt rfl (by omega) (by omega) (fun c39 => ?_) (fun c39 => ?_)
          · refine k_lload_n rfl rfl ?_
            refine k_lconst (v := lN 1) rfl (by decide) ?_
            refine k_ldc2 rfl wd_228 ?_
            refine k_cS3 rfl cw_S_isWithin wd_161 (by decide) (Nat.le_of_ble_eq_true rfl) ?_
            refine c_S_isWithin _ _ _ ?_
            refine kb_eq rfl (fun c52 => ?_) (fun c52 => ?_)
            · refine k_iconst (v := -1) rfl (by decide) ?_
              refine k_iret rfl rfl (Nat.le_refl _) (Nat.le_refl _) ?_
              have y := wi_f c52
              rw [← lN1] at y
              rw [if_pos (by rcases y with z | z
                             · exact Or.inr (Or.inr (Or.inr (Or.inl z)))
                             · exact Or.inr (Or.inr (Or.inr (Or.inr (Or.inl z)))))] at hQ
              exact hQ h p fr_rf P
            · refine k_lload rfl rfl ?_
              refine k_lconst (v := 0) rfl (by decide) ?_
              refine kl_ge rfl rfl (fun c58 => ?_) (fun c58 => ?_)
              · have y0 : ¬ t < 0 := Int64.not_lt.mpr c58
                obtain ⟨y1, y2⟩ := wi_t c52
                rw [← lN1] at y1
                have yq : ¬ q < 0 := nneg (b := 1) (by decide) (by rw [← lN1]; exact y1)
                obtain ⟨eq1, hq63⟩ := LN_of yq
                obtain ⟨et1, ht63⟩ := LN_of y0
                rw [if_neg (by rintro (z | z | z | z | z | z)
                               · rw [c12] at z; cases z
                               · exact z hse
                               · omega
                               · exact y1 z
                               · exact y2 z
                               · exact y0 z), ecl] at hQ
                clear ecl
                subst el
                refine k_lload_n rfl rfl ?_
                refine k_l2i rfl ?_
                rw [show q.toInt32 = nI (LN q) from by rw [← lN_i, ← eq1]]
                refine k_ist8 rfl rfl ?_
                refine k_aload_n rfl rfl ?_
                refine k_getR rfl rfl (sc_o S) (sc_told S) ?_
                refine k_iload rfl rfl ?_
                refine k_aald (q := ca o (p i)) rfl (sc_a2 S) rfl (by decide) rfl (by omega) (by decide) (pc_r P i (by omega)) ?_
                refine k_getR rfl rfl (sc_c S (p i) hpi).1 (sc_c S (p i) hpi).2.2.2.2.2.2.2.2.2.1 ?_
                refine k_iload_n rfl rfl ?_
                refine k_dup2 rfl rfl rfl ?_
                refine k_iA rfl (sc_c S (p i) hpi).2.2.2.1 rfl (by omega) (by decide) ((pc_t P i hk).2.2.2.2.2 l0 (by omega)) ?_
                refine k_iload rfl rfl ?_
                refine k_iaddN rfl ?_
                refine k_iS rfl (sc_c S (p i) hpi).2.2.2.1 rfl (by omega) (by decide) ?_
                refine k_aload_n rfl rfl ?_
                refine k_getR rfl rfl (sc_o S) (sc_looks S) ?_
                refine k_iload_n rfl rfl ?_
                refine k_iload_n rfl rfl ?_
                refine k_iload rfl rfl ?_
                refine k_lload rfl rfl ?_
                rw [et1, ← hec]
                refine k_cVN4 rfl cw_G_add (nsM (i := 7) rfl) (sc_g S).1 rfl (by decide) (Nat.le_of_ble_eq_true rfl) ?_
                refine c_G_add (h := (hp_ui h (ca o (p i) + 3) l0 (nI (s_ld s l0 i + LN q)))) (k := i) (sc_fr S (fr_ui (P := inC o) ⟨by unfold ca; omega, by unfold ca; omega⟩) (fun _ _ _ _ => rfl)) (gT_tr (pc_g P) (fun k k1 k2 j => by rw [i_ui, if_neg (by unfold ca; omega)]) (fun _ => rfl)) (by omega) (fun y hy => (v_log I y hy).2.2.2.2) ht63 (fun h1 x1 hr1 G1 => ?_)
                refine k_iret rfl rfl (Nat.le_refl _) (Nat.le_refl _) ?_
                have E : ∀ a j, ¬ (a = ca o (p i) + 3 ∧ j = l0) ∧ ¬ (o + 252 ≤ a ∧ a < o + 258) → hp_i h1 a j = hp_i h a j := fun a j z => by rw [fr_i x1 z.2, i_ui, if_neg z.1]
                have Ej : ∀ a j, ¬ (o + 252 ≤ a ∧ a < o + 258) → hp_j h1 a j = hp_j h a j := fun a j z => by rw [fr_j x1 z]; rfl
                have x : hp_fr (inC o) h h1 := fr_tr (fr_ui (a := ca o (p i) + 3) (k := l0) (x := nI (s_ld s l0 i + LN q)) ⟨by unfold ca; omega, by unfold ca; omega⟩) (fr_mono x1 (fun a z => ⟨by unfold inG at z; omega, by unfold inG at z; omega⟩))
                exact hQ h1 p x ⟨sc_fr S x (fun a _ _ k => by rw [hr1]; rfl), fun i1 hi1 => by rw [hr1]; exact pc_r P i1 hi1, ⟨pc_m P, pc_told40 (s := s) P⟩, (fun i1 hi1 => by
                  have hi1 : i1 < s_told s := hi1
                  have hb1 := (pc_m P).1 i1 (by omega)
                  obtain ⟨a1, a2, a3, a4, a5, a6⟩ := pc_t P i1 hi1
                  refine ⟨(E _ 5 (by unfold ca; omega)).trans a1, (E _ 6 (by unfold ca; omega)).trans a2, (E _ 7 (by unfold ca; omega)).trans a3, fun y hy => (E _ y (by unfold ca; omega)).trans (a4 y hy), fun y hy => (E _ y (by unfold ca; omega)).trans (a5 y hy), fun y hy => ?_⟩
                  show _ = nI (ldU s l0 i (LN q) y i1)
                  unfold ldU
                  by_cases e : y = l0 ∧ i1 = i
                  · rw [if_pos e, e.1, e.2, fr_i x1 (by unfold inG ca; omega), i_ui, if_pos ⟨rfl, rfl⟩]
                  · rw [if_neg e, fr_i x1 (by unfold inG ca; omega), i_ui, if_neg (fun z => e ⟨z.2, pm_ca (k := 3) (pc_m P) (by omega) (by omega) z.1⟩)]
                    exact a6 y hy), (fun i1 hi1 h4 => by
                  have hi1 : s_told s ≤ i1 := hi1
                  have hb1 := (pc_m P).1 i1 h4
                  have hne : p i1 ≠ p i := fun z => by have := (pc_m P).2 _ _ h4 (by omega) z; omega
                  exact cF_tr (pc_f P i1 hi1 h4) (fun k hk j _ => E _ j (by unfold ca; omega))), fun j hj y hy => (E _ y (by unfold ca; omega)).trans (pc_z P j hj y hy), fun y hy => (E _ y (by unfold ca; omega)).trans (pc_rt (s := s) P y hy), (fun l1 hl1 => by
                  obtain ⟨b1, b2, b3, b4, b5⟩ := pc_l P l1 hl1
                  have hus : us (lkT s l0 i (LN q) (LN t)) l1 = us s l1 := us_cg rfl (fun _ => rfl)
                  exact ⟨fun z => ⟨(E _ 1 (by unfold la ca; omega)).trans (b1 z).1, (E _ 2 (by unfold la ca; omega)).trans ((b1 z).2.trans (by rw [hus]))⟩, (E _ 3 (by unfold la ca; omega)).trans b2, (E _ 4 (by unfold la ca; omega)).trans b3, fun y hy => (E _ y (by unfold la ca; omega)).trans (b4 y hy), b5⟩), G1, (E o 0 (by unfold ca; omega)).trans (pc_cells (s := s) P), (E o 2 (by unfold ca; omega)).trans (pc_told (s := s) P), (E o 4 (by unfold ca; omega)).trans (pc_lkr (s := s) P), (E o 6 (by unfold ca; omega)).trans (pc_things (s := s) P), (E o 8 (by unfold ca; omega)).trans (pc_seen (s := s) P), (Ej o 9 (by omega)).trans (pc_ab (s := s) P), (Ej o 10 (by omega)).trans (pc_bl (s := s) P)⟩
              · refine k_iconst (v := -1) rfl (by decide) ?_
                refine k_iret rfl rfl (Nat.le_refl _) (Nat.le_refl _) ?_
                rw [if_pos (Or.inr (Or.inr (Or.inr (Or.inr (Or.inr (Int64.not_le.mp c58))))))] at hQ
                exact hQ h p fr_rf P
          · refine k_iconst (v := -1) rfl (by decide) ?_
            refine k_iret rfl rfl (Nat.le_refl _) (Nat.le_refl _) ?_
            rw [if_pos (Or.inr (Or.inr (Or.inl (show s_lks s = 200 by omega))))] at hQ
            exact hQ h p fr_rf P
