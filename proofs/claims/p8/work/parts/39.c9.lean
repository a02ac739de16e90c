def anyN (p : Nat → Bool) : Nat → Bool
  | 0 => false
  | n + 1 => anyN p n || p n
theorem anyN_iff {p : Nat → Bool} : ∀ n, anyN p n = true ↔ ∃ x, x < n ∧ p x = true
  | 0 => ⟨fun h => (by cases h), fun ⟨x, h, _⟩ => absurd h (Nat.not_lt_zero _)⟩
  | n + 1 => by
    simp only [anyN, Bool.or_eq_true]
    rw [anyN_iff n]
    constructor
    · rintro (⟨x, h1, h2⟩ | h)
      · exact ⟨x, by omega, h2⟩
      · exact ⟨n, by omega, h⟩
    · rintro ⟨x, h1, h2⟩
      by_cases e : x = n
      · subst e; exact Or.inr h2
      · exact Or.inl ⟨x, by omega, h2⟩
def stZ (Z : Nat → Nat → Nat) (l k x : Nat) : Nat → Nat → Nat := fun l1 k1 => if l1 = l ∧ k1 = k then x else Z l1 k1
/-- whether some way to give what is left finds more than D -/
def ouN (s : St) (D : Nat) : Nat → Nat → Nat → Nat → Nat → (Nat → Nat → Nat) → Bool
  | 0, _, _, _, _, _ => false
  | f + 1, a0, lk, left, sum, Z => if s_told s ≤ a0 then false else if left = 0 then decide (D < sum + fdN s (fun l => Z l a0) a0) else if s_lkr s ≤ lk then ouN s D f (a0 + 1) 0 left (sum + fdN s (fun l => Z l a0) a0) Z else anyN (fun x => ouN s D f a0 (lk + 1) (left - x) sum (stZ Z lk a0 x)) (min left (us s lk - gv Z lk (s_told s)) + 1)
theorem gv_st {Z : Nat → Nat → Nat} {l k x : Nat} (h0 : Z l k = 0) (l1 : Nat) : ∀ n, gv (stZ Z l k x) l1 n = gv Z l1 n + (if l1 = l ∧ k < n then x else 0)
  | 0 => by rw [if_neg (by omega)]; rfl
  | n + 1 => by
    simp only [gv]
    rw [gv_st h0 l1 n]
    unfold stZ
    by_cases e : l1 = l ∧ n = k
    · rw [if_pos e, if_neg (by omega), if_pos (by omega), e.1, e.2, h0] <;> omega
    · rw [if_neg e]
      by_cases z : l1 = l ∧ k < n
      · rw [if_pos z, if_pos (by omega)] <;> omega
      · rw [if_neg z, if_neg (by omega)] <;> omega
theorem sz_st {s : St} {Z : Nat → Nat → Nat} {l k x : Nat} (h0 : Z l k = 0) (hk : k < s_told s) : ∀ n, szN (w_pl s (stZ Z l k x)) n = szN (w_pl s Z) n + (if l < n then x else 0)
  | 0 => by rw [if_neg (by omega)]; rfl
  | n + 1 => by
    show szN (w_pl s (stZ Z l k x)) n + gv (stZ Z l k x) n (s_told s) = szN (w_pl s Z) n + gv Z n (s_told s) + _
    rw [sz_st h0 hk n, gv_st h0]
    by_cases e : n = l
    · rw [if_neg (show ¬ l < n by omega), if_pos (show n = l ∧ k < s_told s from ⟨e, hk⟩), if_pos (show l < n + 1 by omega)] <;> omega
    · rw [if_neg (show ¬ (n = l ∧ k < s_told s) from fun z => e z.1)]
      by_cases z : l < n
      · rw [if_pos z, if_pos (show l < n + 1 by omega)] <;> omega
      · rw [if_neg z, if_neg (show ¬ l < n + 1 by omega)] <;> omega
theorem gv_mono {F G : Nat → Nat → Nat} {l : Nat} : ∀ n, (∀ k, k < n → F l k ≤ G l k) → gv F l n ≤ gv G l n
  | 0, _ => Nat.le_refl _
  | n + 1, h => by
    have h1 := gv_mono n (fun k hk => h k (by omega))
    have h2 := h n (by omega)
    simp only [gv]; omega
theorem sz_mono {s : St} {F G : Nat → Nat → Nat} : ∀ n, (∀ l k, l < n → k < s_told s → F l k ≤ G l k) → szN (w_pl s F) n ≤ szN (w_pl s G) n
  | 0, _ => Nat.le_refl _
  | n + 1, h => by
    have h1 := sz_mono (s := s) n (fun l k hl hk => h l k (by omega) hk)
    have h2 := gv_mono (l := n) (s_told s) (fun k hk => h n k (by omega) hk)
    show szN (w_pl s F) n + gv F n (s_told s) ≤ szN (w_pl s G) n + gv G n (s_told s)
    omega
theorem gv_eqo {F G : Nat → Nat → Nat} {l : Nat} : ∀ n, (∀ k, k < n → F l k ≤ G l k) → gv G l n ≤ gv F l n → ∀ k, k < n → G l k = F l k
  | 0, _, _, k, hk => absurd hk (Nat.not_lt_zero _)
  | n + 1, h, e, k, hk => by
    have h1 := gv_mono n (fun k hk => h k (by omega))
    have h2 := h n (by omega)
    simp only [gv] at e
    by_cases z : k = n
    · subst z; omega
    · exact gv_eqo n (fun k hk => h k (by omega)) (by omega) k (by omega)
theorem sz_eqo {s : St} {F G : Nat → Nat → Nat} : ∀ n, (∀ l k, l < n → k < s_told s → F l k ≤ G l k) → szN (w_pl s G) n ≤ szN (w_pl s F) n → ∀ l k, l < n → k < s_told s → G l k = F l k
  | 0, _, _, l, k, hl, _ => absurd hl (Nat.not_lt_zero _)
  | n + 1, h, e, l, k, hl, hk => by
    have h1 := sz_mono (s := s) n (fun l k hl hk => h l k (by omega) hk)
    have h2 := gv_mono (l := n) (s_told s) (fun k hk => h n k (by omega) hk)
    have e : szN (w_pl s G) n + gv G n (s_told s) ≤ szN (w_pl s F) n + gv F n (s_told s) := e
    by_cases z : l = n
    · subst z
      exact gv_eqo (s_told s) (fun k hk => h l k (by omega) hk) (by omega) k hk
    · exact sz_eqo n (fun l k hl hk => h l k (by omega) hk) (by omega) l k (by omega) hk
theorem ms1_cong {s : St} {f f1 : Nat → Nat} (h : ∀ l, l < s_lkr s → f l = f1 l) (k l : Nat) : ms1 s f k l = ms1 s f1 k l := by
  unfold ms1
  by_cases z : l < s_lkr s
  · rw [if_pos z, if_pos z, h l z]
  · rw [if_neg z, if_neg z]
theorem msP_cong {s : St} {f f1 : Nat → Nat} (h : ∀ l, l < s_lkr s → f l = f1 l) (k : Nat) : ∀ l, msP s f k l = msP s f1 k l
  | 0 => rfl
  | l + 1 => by simp only [msP]; rw [msP_cong h k l, ms1_cong h k l]
theorem fdN_cong {s : St} {f f1 : Nat → Nat} (h : ∀ l, l < s_lkr s → f l = f1 l) (k : Nat) : fdN s f k = fdN s f1 k := by unfold fdN msN; rw [msP_cong h k 4]
theorem wo_cong {s : St} {F G : Nat → Nat → Nat} : ∀ n, (∀ l k, l < s_lkr s → k < n → F l k = G l k) → wo s F n = wo s G n
  | 0, _ => rfl
  | n + 1, h => by
    rw [wo_fd, wo_fd, wo_cong n (fun l k hl hk => h l k hl (by omega)), fdN_cong (fun l hl => h l n hl (by omega)) n]
theorem wo_mono {s : St} {F G : Nat → Nat → Nat} (h : ∀ l k, F l k ≤ G l k) : ∀ n, wo s F n ≤ wo s G n
  | 0 => Nat.le_refl _
  | n + 1 => by
    rw [wo_fd, wo_fd]
    have h1 := wo_mono (s := s) h n
    have h2 := fdN_mono (s := s) (f := fun l => F l n) (f1 := fun l => G l n) (fun l => h l n) n
    omega
theorem ms1_0 {s : St} (I : Inv s) {k : Nat} (hk : k < s_told s) (l : Nat) : ms1 s (fun _ => 0) k l = 720 := by
  obtain ⟨h1, h2⟩ := v_ar I k hk
  unfold ms1
  have e : (if l < s_lkr s then 0 * s_rt s l else 0) = 0 := by
    split
    · exact Nat.zero_mul _
    · rfl
  rw [e, Nat.min_zero, Nat.sub_zero]
  exact Nat.div_mul_cancel h2
theorem fdN_0 {s : St} (I : Inv s) {k : Nat} (hk : k < s_told s) : fdN s (fun _ => 0) k = 0 := by
  have e : msN s (fun _ => 0) k = 268738560000 := by
    show 1 * ms1 s (fun _ => 0) k 0 * ms1 s (fun _ => 0) k 1 * ms1 s (fun _ => 0) k 2 * ms1 s (fun _ => 0) k 3 = _
    rw [ms1_0 I hk, ms1_0 I hk, ms1_0 I hk, ms1_0 I hk]
  unfold fdN
  rw [e, Nat.sub_self, Nat.mul_zero]
theorem wo_tail {s : St} (I : Inv s) {Z : Nat → Nat → Nat} {m : Nat} (h : ∀ l k, m ≤ k → Z l k = 0) : ∀ q, m + q ≤ s_told s → wo s Z (m + q) = wo s Z m
  | 0, _ => rfl
  | q + 1, hq => by
    rw [show m + (q + 1) = (m + q) + 1 from rfl, wo_fd, wo_tail I h q (by omega), show (fun l => Z l (m + q)) = fun _ => 0 from funext (fun l => h l (m + q) (by omega)), fdN_0 I (by omega), Nat.add_zero]
/-- a plan of n hours that the lookers have and that finds more than D -/
def gdX (s : St) (D n : Nat) (X : Nat → Nat → Nat) : Prop := (∀ l k, s_lkr s ≤ l ∨ s_told s ≤ k → X l k = 0) ∧ szN (w_pl s X) (s_lkr s) = n ∧ (∀ l, l < s_lkr s → gv X l (s_told s) ≤ us s l) ∧ D < wo s X (s_told s)
def agX (s : St) (a0 lk : Nat) (Z X : Nat → Nat → Nat) : Prop := ∀ l k, l < s_lkr s → k < a0 ∨ (k = a0 ∧ l < lk) → X l k = Z l k
theorem ou_iff {s : St} (I : Inv s) {D n : Nat} : ∀ (f a0 lk left sum : Nat) (Z : Nat → Nat → Nat), (s_told s - a0) * (s_lkr s + 1) + (s_lkr s - lk) < f → a0 ≤ s_told s → lk ≤ s_lkr s → a0 < s_told s ∨ 0 < left → sum = wo s Z a0 → szN (w_pl s Z) (s_lkr s) + left = n → (∀ l k, s_lkr s ≤ l ∨ s_told s ≤ k ∨ a0 < k ∨ (k = a0 ∧ lk ≤ l) → Z l k = 0) → (∀ l, l < s_lkr s → gv Z l (s_told s) ≤ us s l) → (ouN s D f a0 lk left sum Z = true ↔ ∃ X, agX s a0 lk Z X ∧ gdX s D n X)
  | 0, _, _, _, _, _, h, _, _, _, _, _, _, _ => absurd h (Nat.not_lt_zero _)
  | f + 1, a0, lk, left, sum, Z, hf, ha, hl, hal, hs, hn, hz, hu => by
    have zle : ∀ X, agX s a0 lk Z X → ∀ l k, l < s_lkr s → k < s_told s → Z l k ≤ X l k := fun X ag l k h1 h2 => by
      by_cases z : k < a0 ∨ (k = a0 ∧ l < lk)
      · rw [ag l k h1 z]; exact Nat.le_refl _
      · rw [hz l k (by omega)]; exact Nat.zero_le _
    simp only [ouN]
    by_cases c1 : s_told s ≤ a0
    · rw [if_pos c1]
      refine ⟨fun z => (by cases z), fun ⟨X, ag, gd⟩ => ?_⟩
      have e1 := sz_mono (s := s) (F := X) (G := Z) (s_lkr s) (fun l k h1 h2 => by rw [ag l k h1 (Or.inl (by omega))]; exact Nat.le_refl _)
      have e2 := gd.2.1
      omega
    · rw [if_neg c1]
      have hat : a0 < s_told s := by omega
      by_cases c2 : left = 0
      · rw [if_pos c2]
        have e1 : wo s Z (s_told s) = sum + fdN s (fun l => Z l a0) a0 := by
          have e2 := wo_tail I (Z := Z) (m := a0 + 1) (fun l k h => hz l k (by omega)) (s_told s - (a0 + 1)) (by omega)
          rw [show a0 + 1 + (s_told s - (a0 + 1)) = s_told s by omega] at e2
          rw [e2, wo_fd, hs]
        rw [decide_eq_true_eq, ← e1]
        constructor
        · intro h
          exact ⟨Z, fun _ _ _ _ => rfl, fun l k h1 => hz l k (by omega), by omega, hu, h⟩
        · rintro ⟨X, ag, gd⟩
          have e2 := sz_eqo (s := s) (s_lkr s) (zle X ag) (by rw [gd.2.1]; omega)
          rw [← wo_cong (s_told s) (fun l k h1 h2 => e2 l k h1 h2)]
          exact gd.2.2.2
      · rw [if_neg c2]
        by_cases c3 : s_lkr s ≤ lk
        · rw [if_pos c3]
          have hq : (s_told s - (a0 + 1) + 1) * (s_lkr s + 1) = (s_told s - a0) * (s_lkr s + 1) := by rw [show s_told s - (a0 + 1) + 1 = s_told s - a0 by omega]
          rw [Nat.add_mul, Nat.one_mul] at hq
          rw [ou_iff I (D := D) (n := n) f (a0 + 1) 0 left _ Z (by omega) (by omega) (Nat.zero_le _) (Or.inr (by omega)) (by rw [wo_fd, hs]) hn (fun l k h => hz l k (by omega)) hu]
          constructor
          · rintro ⟨X, ag, gd⟩
            exact ⟨X, fun l k h1 h2 => ag l k h1 (Or.inl (by omega)), gd⟩
          · rintro ⟨X, ag, gd⟩
            exact ⟨X, fun l k h1 h2 => ag l k h1 (by omega), gd⟩
        · rw [if_neg c3, anyN_iff]
          have hz0 : Z lk a0 = 0 := hz lk a0 (by omega)
          have huk := hu lk (by omega)
          have step : ∀ x, x ≤ left → gv Z lk (s_told s) + x ≤ us s lk → (ouN s D f a0 (lk + 1) (left - x) sum (stZ Z lk a0 x) = true ↔ ∃ X, agX s a0 (lk + 1) (stZ Z lk a0 x) X ∧ gdX s D n X) := fun x h1 h2 =>
            ou_iff I (D := D) (n := n) f a0 (lk + 1) (left - x) sum (stZ Z lk a0 x) (by omega) ha (by omega) (Or.inl hat)
              (by rw [hs]; exact wo_cong a0 (fun l k _ h4 => by unfold stZ; rw [if_neg (by omega)]))
              (by rw [sz_st hz0 hat, if_pos (by omega)]; omega)
              (fun l k h => by unfold stZ; rw [if_neg (by omega)]; exact hz l k (by omega))
              (fun l h3 => by
                rw [gv_st hz0]
                by_cases e : l = lk
                · rw [if_pos ⟨e, hat⟩, e]; exact h2
                · rw [if_neg (fun z => e z.1)]; exact hu l h3)
          constructor
          · rintro ⟨x, h1, h2⟩
            obtain ⟨X, ag, gd⟩ := (step x (by omega) (by omega)).mp h2
            exact ⟨X, fun l k h3 h4 => by rw [ag l k h3 (by omega)]; unfold stZ; rw [if_neg (by omega)], gd⟩
          · rintro ⟨X, ag, gd⟩
            have h5 : ∀ l k, l < s_lkr s → k < s_told s → stZ Z lk a0 (X lk a0) l k ≤ X l k := fun l k h3 h4 => by
              unfold stZ
              by_cases e : l = lk ∧ k = a0
              · rw [if_pos e, e.1, e.2]; exact Nat.le_refl _
              · rw [if_neg e]; exact zle X ag l k h3 h4
            have h6 := sz_mono (s := s) (s_lkr s) h5
            rw [sz_st hz0 hat, if_pos (by omega), gd.2.1] at h6
            have h7 := gv_mono (l := lk) (s_told s) (fun k hk => h5 lk k (by omega) hk)
            rw [gv_st hz0, if_pos ⟨rfl, hat⟩] at h7
            have h8 := gd.2.2.1 lk (by omega)
            refine ⟨X lk a0, by omega, (step _ (by omega) (by omega)).mpr ⟨X, fun l k h3 h4 => ?_, gd⟩⟩
            unfold stZ
            by_cases e : l = lk ∧ k = a0
            · rw [if_pos e, e.1, e.2]
            · rw [if_neg e]; exact ag l k h3 (by omega)
theorem mbT_iff {s : St} {T : Nat → Nat} : ∀ m, mbT s T m = true ↔ ∀ l, l < m → gv (TF s T) l (s_told s) ≤ us s l
  | 0 => ⟨fun _ l h => absurd h (Nat.not_lt_zero _), fun _ => rfl⟩
  | m + 1 => by
    simp only [mbT, Bool.and_eq_true, decide_eq_true_eq]
    rw [mbT_iff m]
    constructor
    · rintro ⟨h1, h2⟩ l hl
      by_cases e : l = m
      · subst e; exact h2
      · exact h1 l (by omega)
    · intro h
      exact ⟨fun l hl => h l (by omega), h m (by omega)⟩
theorem smT_sz {s : St} {T : Nat → Nat} {X : Nat → Nat → Nat} {L : Nat} (h : ∀ l k, l < L → k < s_told s → T (l * s_told s + k) = X l k) : ∀ m, m ≤ L → smT T (m * s_told s) = szN (w_pl s X) m
  | 0, _ => by rw [Nat.zero_mul]; rfl
  | m + 1, hm => by
    have ih := smT_sz h m (by omega)
    have h2 : ∀ k, k ≤ s_told s → smT T (m * s_told s + k) = smT T (m * s_told s) + gv X m k := by
      intro k
      induction k with
      | zero => intro _; rfl
      | succ k ihk =>
        intro hk
        show smT T (m * s_told s + k) + T (m * s_told s + k) = _
        rw [ihk (by omega), h m k (by omega) (by omega)]
        simp only [gv]; omega
    rw [Nat.add_mul, Nat.one_mul, h2 _ (Nat.le_refl _), ih]
    rfl
def txT (s : St) (X : Nat → Nat → Nat) : Nat → Nat := fun x => if x < s_told s * s_lkr s then X (x / s_told s) (x % s_told s) else 0
theorem tx_iff {s : St} {D n : Nat} (h0 : 0 < s_told s) : (∃ X, gdX s D n X) ↔ ∃ T, cmpT (s_told s * s_lkr s) n T ∧ okT s D T := by
  have dv : ∀ l k, k < s_told s → (l * s_told s + k) / s_told s = l ∧ (l * s_told s + k) % s_told s = k := fun l k hk => by
    rw [Nat.mul_comm l, Nat.mul_add_div h0, Nat.div_eq_of_lt hk, Nat.mul_add_mod, Nat.mod_eq_of_lt hk]
    exact ⟨Nat.add_zero _, rfl⟩
  constructor
  · rintro ⟨X, z, e, u, b⟩
    have ht : ∀ l k, l < s_lkr s → k < s_told s → txT s X (l * s_told s + k) = X l k := fun l k hl hk => by
      show (if l * s_told s + k < s_told s * s_lkr s then X ((l * s_told s + k) / s_told s) ((l * s_told s + k) % s_told s) else 0) = X l k
      rw [if_pos (lk_lt hl hk), (dv l k hk).1, (dv l k hk).2]
    refine ⟨txT s X, ?_, ?_⟩
    · refine ⟨fun i hi => if_neg (by omega), ?_⟩
      rw [Nat.mul_comm, smT_sz ht (s_lkr s) (Nat.le_refl _), e]
    · refine ⟨(mbT_iff _).mpr (fun l hl => ?_), ?_⟩
      · refine Nat.le_trans (gv_mono _ (fun k hk => ?_)) (u l hl)
        exact Nat.le_of_eq (ht l k hl hk)
      · rw [wo_cong (F := TF s (txT s X)) (G := X) (s_told s) (fun l k hl hk => ht l k hl hk)]; exact b
  · rintro ⟨T, ⟨z, e⟩, mb, b⟩
    have ht : ∀ l k, l < s_lkr s → k < s_told s → T (l * s_told s + k) = (fun l k => if l < s_lkr s ∧ k < s_told s then T (l * s_told s + k) else 0) l k := fun l k hl hk => (if_pos ⟨hl, hk⟩).symm
    refine ⟨fun l k => if l < s_lkr s ∧ k < s_told s then T (l * s_told s + k) else 0, fun l k h => if_neg (by omega), ?_, fun l hl => ?_, ?_⟩
    · rw [← smT_sz ht (s_lkr s) (Nat.le_refl _), Nat.mul_comm]; exact e
    · refine Nat.le_trans (gv_mono _ (fun k hk => ?_)) ((mbT_iff _).mp mb l hl)
      exact Nat.le_of_eq (ht l k hl hk).symm
    · rw [← wo_cong (F := TF s T) (s_told s) (fun l k hl hk => ht l k hl hk)]; exact b
/-- the heap while plans are tried: nothing but the trial hours Y and their sums tl is another -/
def TrH (h0 h : Hp) (o : Nat) (p : Nat → Nat) (T : Nat) (Y : Nat → Nat → Nat) (tl : Nat → Nat) : Prop := hp_fr (inC o) h0 h ∧ hp_r h = hp_r h0 ∧ hp_j h = hp_j h0 ∧ (∀ a j, (∀ i, i < T → a ≠ ca o (p i) + 4) → (∀ l, l < 4 → ¬ (a = la o l ∧ j = 4)) → hp_i h a j = hp_i h0 a j) ∧ (∀ i, i < T → ∀ l, l < 4 → hp_i h (ca o (p i) + 4) l = nI (Y l i)) ∧ ∀ l, l < 4 → hp_i h (la o l) 4 = nI (tl l)
theorem tr_Y {h0 h : Hp} {o T k l x : Nat} {p : Nat → Nat} {Y : Nat → Nat → Nat} {tl : Nat → Nat} (m : pm p) (hT : T ≤ 40) (H : TrH h0 h o p T Y tl) (hk : k < T) : TrH h0 (hp_ui h (ca o (p k) + 4) l (nI x)) o p T (stZ Y l k x) tl := by
  obtain ⟨x1, hr, hj, E, A, B⟩ := H
  have hb := m.1 k (by omega)
  refine ⟨fr_tr x1 (fr_ui ⟨by unfold ca; omega, by unfold ca; omega⟩), hr, hj, fun a j h1 h2 => ?_, fun i hi y hy => ?_, fun y hy => ?_⟩
  · rw [i_ui, if_neg (fun z => h1 k hk z.1)]; exact E a j h1 h2
  · rw [i_ui]
    unfold stZ
    by_cases e : y = l ∧ i = k
    · rw [if_pos ⟨by rw [e.2], e.1⟩, if_pos e]
    · rw [if_neg (fun z => e ⟨z.2, pm_ca m (by omega) (by omega) z.1⟩), if_neg e]; exact A i hi y hy
  · rw [i_ui, if_neg (by unfold ca la; omega)]; exact B y hy
theorem tr_t {h0 h : Hp} {o T l x : Nat} {p : Nat → Nat} {Y : Nat → Nat → Nat} {tl tl1 : Nat → Nat} (m : pm p) (hT : T ≤ 40) (H : TrH h0 h o p T Y tl) (hl : l < 4) (h1 : ∀ y, y ≠ l → tl1 y = tl y) (h2 : tl1 l = x) : TrH h0 (hp_ui h (la o l) 4 (nI x)) o p T Y tl1 := by
  obtain ⟨x1, hr, hj, E, A, B⟩ := H
  refine ⟨fr_tr x1 (fr_ui ⟨by unfold la; omega, by unfold la; omega⟩), hr, hj, fun a j h3 h4 => ?_, fun i hi y hy => ?_, fun y hy => ?_⟩
  · rw [i_ui, if_neg (h4 l hl)]; exact E a j h3 h4
  · have hb := m.1 i (by omega)
    rw [i_ui, if_neg (by unfold ca la; omega)]; exact A i hi y hy
  · rw [i_ui]
    by_cases e : y = l
    · rw [if_pos ⟨by rw [e], rfl⟩, e, h2]
    · rw [if_neg (by unfold la; omega), h1 y e]; exact B y hy
theorem tr_cong {h0 h : Hp} {o T : Nat} {p : Nat → Nat} {Y Y1 : Nat → Nat → Nat} {tl tl1 : Nat → Nat} (H : TrH h0 h o p T Y tl) (e1 : ∀ l i, Y1 l i = Y l i) (e2 : ∀ l, tl1 l = tl l) : TrH h0 h o p T Y1 tl1 := by
  obtain ⟨x1, hr, hj, E, A, B⟩ := H
  exact ⟨x1, hr, hj, E, fun i hi y hy => by rw [e1]; exact A i hi y hy, fun y hy => by rw [e2]; exact B y hy⟩
/-- when all trial hours are 0 again the picture stands -/
theorem pc_tr {g : Gx} {h0 h : Hp} {o : Nat} {p : Nat → Nat} {s : St} {tl : Nat → Nat} (P : PC g h0 o p s) (H : TrH h0 h o p (s_told s) (fun _ _ => 0) tl) (ht : ∀ l, l < 4 → tl l = 0) : PC g h o p s := by
  obtain ⟨x, hr, hj, E, A, B⟩ := H
  have b40 := pc_told40 P
  have hm := (pc_m P).1
  refine ⟨sc_fr (pc_S P) x (fun a _ _ k => by rw [hr]), fun i hi => by rw [hr]; exact pc_r P i hi, ⟨pc_m P, pc_told40 P⟩, fun i hi => ?_, fun i hi h4 => ?_, fun j hj l hl => ?_, fun l hl => (E _ l (fun i1 hi1 => by have := hm i1 (by omega); unfold ca; omega) (fun l1 hl1 => by unfold la; omega)).trans (pc_rt P l hl), fun l hl => ?_, gT_tr (pc_g P) (fun k k1 k2 j => E _ j (fun i1 hi1 => by have := hm i1 (by omega); unfold ca; omega) (fun l1 hl1 => by unfold la; omega)) (fun j => by rw [hj]), (E o 0 (fun i1 hi1 => by unfold ca; omega) (fun l1 hl1 => by unfold la; omega)).trans (pc_cells P), (E o 2 (fun i1 hi1 => by unfold ca; omega) (fun l1 hl1 => by unfold la; omega)).trans (pc_told P), (E o 4 (fun i1 hi1 => by unfold ca; omega) (fun l1 hl1 => by unfold la; omega)).trans (pc_lkr P), (E o 6 (fun i1 hi1 => by unfold ca; omega) (fun l1 hl1 => by unfold la; omega)).trans (pc_things P), (E o 8 (fun i1 hi1 => by unfold ca; omega) (fun l1 hl1 => by unfold la; omega)).trans (pc_seen P), by rw [hj]; exact pc_ab P, by rw [hj]; exact pc_bl P⟩
  · have hb := hm i (by omega)
    obtain ⟨a1, a2, a3, a4, a5, a6⟩ := pc_t P i hi
    have ee : ∀ k, k < 4 → ∀ j, hp_i h (ca o (p i) + k) j = hp_i h0 (ca o (p i) + k) j := fun k hk j => E _ j (fun i1 hi1 => ca_ne (by omega) (by omega) (Or.inl (by omega))) (fun l1 hl1 => by unfold ca la; omega)
    exact ⟨(ee 0 (by omega) 5).trans a1, (ee 0 (by omega) 6).trans a2, (ee 0 (by omega) 7).trans a3, fun t ht => (ee 1 (by omega) t).trans (a4 t ht), fun t ht => (ee 2 (by omega) t).trans (a5 t ht), fun t ht => (ee 3 (by omega) t).trans (a6 t ht)⟩
  · have hb := hm i h4
    exact cF_tr (pc_f P i hi h4) (fun k hk j _ => E _ j (fun i1 hi1 => ca_ne (by omega) (by omega) (Or.inl (by omega))) (fun l1 hl1 => by unfold ca la; omega))
  · by_cases e : ∃ i, i < s_told s ∧ p i = j
    · obtain ⟨i, h1, h2⟩ := e
      subst h2
      exact A i h1 l hl
    · rw [E _ l (fun i1 hi1 z => e ⟨i1, hi1, by unfold ca at z; omega⟩) (fun l1 hl1 => by unfold ca la; omega)]
      exact pc_z P j hj l hl
  · obtain ⟨b1, b2, b3, b4, b5⟩ := pc_l P l hl
    have ee : ∀ j, j ≠ 4 → hp_i h (la o l) j = hp_i h0 (la o l) j := fun j hj => E _ j (fun i1 hi1 => by have := hm i1 (by omega); unfold ca la; omega) (fun l1 hl1 => by omega)
    exact ⟨fun z => ⟨(ee 1 (by omega)).trans (b1 z).1, (ee 2 (by omega)).trans (b1 z).2⟩, (ee 3 (by omega)).trans b2, (B l hl).trans (by rw [ht l hl]; rfl), fun t ht => (E _ t (fun i1 hi1 => by have := hm i1 (by omega); unfold ca la; omega) (fun l1 hl1 => by unfold la; omega)).trans (b4 t ht), b5⟩
theorem c_S_isOutdone {g : Gx} {h0 : Hp} {o d D : Nat} {p : Nat → Nat} {s : St} (P : PC g h0 o p s) (I : Inv s) (hD : D < 2 ^ 63) : ∀ (f a0 lk left sum : Nat) (Z : Nat → Nat → Nat) (h : Hp) (Q : Option Value → Hp → Prop), (s_told s - a0) * (s_lkr s + 1) + (s_lkr s - lk) < f → a0 ≤ s_told s → lk ≤ s_lkr s → left ≤ 5 → sum ≤ a0 * (4000 * 268738560000) → TrH h0 h o p (s_told s) Z (fun l => gv Z l (s_told s)) → (∀ l k, a0 < k ∨ (k = a0 ∧ lk ≤ l) → Z l k = 0) → (∀ l k, Z l k ≤ 5) → (∀ l, l < s_lkr s → gv Z l (s_told s) ≤ us s l) → (∀ h1, TrH h0 h1 o p (s_told s) Z (fun l => gv Z l (s_told s)) → Q (some (.int (bI (ouN s D f a0 lk left sum Z)))) h1) → Ct g M_S_isOutdone (d + f + 4) 0 0 [.ref o, .int (nI a0), .int (nI lk), .int (nI left), .long (lN sum), .long (lN D)] h Q := by
  have S0 := pc_S P
  have bT := v_told I
  have bL := v_lkr I
  have hm := (pc_m P).1
  intro f
  induction f with
  | zero => intro a0 lk left sum Z h Q hf; exact absurd hf (Nat.not_lt_zero _)
  | succ f ih =>
    intro a0 lk left sum Z h Q hf ha hl hle hsum H hz hz5 hu hQ
    refine ct_of ok_S_isOutdone (by decide) (Nat.le_of_ble_eq_true rfl) [some (.ref o), some (.int (nI a0)), some (.int (nI lk)), some (.int (nI left)), some (.long (lN sum)), none, some (.long (lN D)), none, none, none, none, none, none] rfl rfl ?_
    obtain ⟨x, hr, hj, E, A, Bt⟩ := id H
    have S := sc_fr S0 x (fun a _ _ k => by rw [hr])
    have hT : hp_i h o 2 = nI (s_told s) := (E o 2 (fun i1 hi1 => by unfold ca; omega) (fun l1 hl1 => by unfold la; omega)).trans (pc_told P)
    have hLk : hp_i h o 4 = nI (s_lkr s) := (E o 4 (fun i1 hi1 => by unfold ca; omega) (fun l1 hl1 => by unfold la; omega)).trans (pc_lkr P)
    simp only [ouN] at hQ
    refine k_iload_n rfl rfl ?_
    refine k_aload_n rfl rfl ?_
    refine k_gI rfl rfl (sc_o S) hT ?_
    refine kn_lt rfl (by omega) (by omega) (fun c5 => ?_) (fun c5 => ?_)
    · have hat := c5
      have hpa := hm a0 (by omega)
      have B2 : cB g h o s (p a0) a0 := cB_tr (cB_of P hat) x hr (fun a hha q => E a q (fun i1 hi1 => by have := hm i1 (by omega); unfold ca at hha ⊢; omega) (fun l1 hl1 => by unfold ca at hha; unfold la; omega))
      have hfd := fdN_le I hat (fun l => Z l a0)
      have hsm : a0 * (4000 * 268738560000) ≤ 39 * (4000 * 268738560000) := Nat.mul_le_mul_right _ (by omega)
      rw [if_neg (by omega)] at hQ
      refine k_aload_n rfl rfl ?_
      refine k_getR rfl rfl (sc_o S) (sc_told S) ?_
      refine k_iload_n rfl rfl ?_
      refine k_aald (q := ca o (p a0)) rfl (sc_a2 S) rfl (by decide) rfl (show a0 < 40 by omega) (by decide) (by rw [hr]; exact pc_r P a0 (by omega)) ?_
      refine k_ast8 rfl rfl ?_
      refine k_iload_n rfl rfl ?_
      refine k_if_ne rfl (fun c19 => ?_) (fun c19 => ?_)
      · have hl0 : left ≠ 0 := fun z => c19 (by rw [z]; rfl)
        rw [if_neg hl0] at hQ
        refine k_iload_n rfl rfl ?_
        refine k_aload_n rfl rfl ?_
        refine k_gI rfl rfl (sc_o S) hLk ?_
        refine kn_lt rfl (by omega) (by omega) (fun c56 => ?_) (fun c56 => ?_)
        · have hz0 : Z lk a0 = 0 := hz lk a0 (Or.inr ⟨rfl, Nat.le_refl _⟩)
          have huk := hu lk c56
          have hus := usN_le s lk (s_hr s lk)
          have hhr := v_hr I lk c56
          have hus1 : us s lk ≤ 24 := by unfold us; omega
          have hu2 : hp_i h (la o lk) 2 = nI (us s lk) := (E _ 2 (fun i1 hi1 => by have := hm i1 (by omega); unfold ca la; omega) (fun l1 hl1 => by omega)).trans ((pc_l P lk (by omega)).1 c56).2
          rw [if_neg (by omega)] at hQ
          refine k_aload_n rfl rfl ?_
          refine k_getR rfl rfl (sc_o S) (sc_lkrs S) ?_
          refine k_iload_n rfl rfl ?_
          refine k_aald (q := la o lk) rfl (sc_a243 S) rfl (by decide) rfl (show lk < 4 by omega) (by decide) (sc_l S lk (by omega)).2.2.2 ?_
          refine k_ast9 rfl rfl ?_
          refine k_iload_n rfl rfl ?_
          refine k_aload rfl rfl ?_
          refine k_gI rfl rfl (sc_l S lk (by omega)).1 hu2 ?_
          refine k_aload rfl rfl ?_
          refine k_gI rfl rfl (sc_l S lk (by omega)).1 (Bt lk (by omega)) ?_
          refine k_isubN rfl huk ?_
          refine k_minN rfl wd_278 (by omega) (by omega) (Nat.le_of_ble_eq_true rfl) ?_
          obtain ⟨mo, emo⟩ : ∃ mo, mo = min left (us s lk - gv Z lk (s_told s)) := ⟨_, rfl⟩
          rw [← emo] at hQ ⊢
          have hmo1 : mo ≤ left := by omega
          have hmo2 : mo + gv Z lk (s_told s) ≤ us s lk := by omega
          refine k_ist10 rfl rfl ?_
          refine k_iconst (v := nI 0) rfl (by decide) ?_
          refine k_ist11 rfl rfl ?_
          refine k_iconst (v := nI 0) rfl (by decide) ?_
          refine k_ist12 rfl rfl ?_
          change Om g M_S_isOutdone (d + (f + 1) + 4) Q h 119 [some (.ref o), some (.int (nI a0)), some (.int (nI lk)), some (.int (nI left)), some (.long (lN sum)), none, some (.long (lN D)), none, some (.ref (ca o (p a0))), some (.ref (la o lk)), some (.int (nI mo)), some (.int (bI false)), some (.int (nI 0))] []
          have J : ∀ (x0 : Nat) (b : Bool) (h1 : Hp) (v : Nat), TrH h0 h1 o p (s_told s) (stZ Z lk a0 v) (fun l => gv Z l (s_told s)) → b = anyN (fun x0 => ouN s D f a0 (lk + 1) (left - x0) sum (stZ Z lk a0 x0)) (mo + 1) → Om g M_S_isOutdone (d + (f + 1) + 4) Q h1 188 [some (.ref o), some (.int (nI a0)), some (.int (nI lk)), some (.int (nI left)), some (.long (lN sum)), none, some (.long (lN D)), none, some (.ref (ca o (p a0))), some (.ref (la o lk)), some (.int (nI mo)), some (.int (bI b)), some (.int (nI x0))] [] := by
            intro x0 b h1 v H1 eb
            have S1 := sc_fr S0 H1.1 (fun a _ _ k => by rw [H1.2.1])
            refine k_aload rfl rfl ?_
            refine k_getR rfl rfl (sc_c S1 (p a0) hpa).1 (sc_c S1 (p a0) hpa).2.2.2.2.2.2.2.2.2.2.1 ?_
            refine k_iload_n rfl rfl ?_
            refine k_iconst (v := nI 0) rfl (by decide) ?_
            refine k_iS rfl (sc_c S1 (p a0) hpa).2.2.2.2.1 rfl (show lk < 4 by omega) (by decide) ?_
            refine k_iload rfl rfl ?_
            refine k_zret rfl rfl (bI_nar _) (Nat.le_refl _) (Nat.le_refl _) ?_
            rw [eb]
            refine hQ _ (tr_cong (tr_Y (x := 0) (pc_m P) bT H1 hat) (fun l i => ?_) (fun _ => rfl))
            unfold stZ
            by_cases e : l = lk ∧ i = a0
            · rw [if_pos e, e.1, e.2]; exact hz lk a0 (Or.inr ⟨rfl, Nat.le_refl _⟩)
            · rw [if_neg e, if_neg e]
          suffices HL : ∀ (q x0 : Nat) (b : Bool) (h1 : Hp) (v : Nat), x0 + q = mo + 1 → TrH h0 h1 o p (s_told s) (stZ Z lk a0 v) (fun l => gv Z l (s_told s)) → b = anyN (fun x0 => ouN s D f a0 (lk + 1) (left - x0) sum (stZ Z lk a0 x0)) x0 → Om g M_S_isOutdone (d + (f + 1) + 4) Q h1 119 [some (.ref o), some (.int (nI a0)), some (.int (nI lk)), some (.int (nI left)), some (.long (lN sum)), none, some (.long (lN D)), none, some (.ref (ca o (p a0))), some (.ref (la o lk)), some (.int (nI mo)), some (.int (bI b)), some (.int (nI x0))] [] from
            HL (mo + 1) 0 false h 0 (Nat.zero_add _) (tr_cong H (fun l i => by
              unfold stZ
              by_cases e : l = lk ∧ i = a0
              · rw [if_pos e, e.1, e.2]; exact (hz lk a0 (Or.inr ⟨rfl, Nat.le_refl _⟩)).symm
              · rw [if_neg e]) (fun _ => rfl)) rfl
          intro q
          induction q with
          | zero =>
            intro x0 b h1 v hx H1 eb
            have ex : x0 = mo + 1 := by omega
            subst ex
            refine k_iload rfl rfl ?_
            refine k_iload rfl rfl ?_
            refine kn_gt rfl (by omega) (by omega) (fun c123 => ?_) (fun c123 => ?_)
            · exact J _ b h1 v H1 eb
            · exact absurd c123 (by omega)
          | succ q ihq =>
            intro x0 b h1 v hx H1 eb
            have S1 := sc_fr S0 H1.1 (fun a _ _ k => by rw [H1.2.1])
            have hx0 : x0 ≤ mo := by omega
            have H2 := tr_Y (l := lk) (x := x0) (pc_m P) bT H1 hat
            have H2 : TrH h0 _ o p (s_told s) (stZ Z lk a0 x0) (fun l => gv Z l (s_told s)) := tr_cong H2 (fun l i => by
              unfold stZ
              by_cases e : l = lk ∧ i = a0
              · rw [if_pos e, if_pos e]
              · rw [if_neg e, if_neg e, if_neg e]) (fun _ => rfl)
            have hgk : gv (stZ Z lk a0 x0) lk (s_told s) = gv Z lk (s_told s) + x0 := by rw [gv_st hz0, if_pos ⟨rfl, hat⟩]
            have H3 := tr_t (l := lk) (x := gv Z lk (s_told s) + x0) (tl1 := fun l => gv (stZ Z lk a0 x0) l (s_told s)) (pc_m P) bT H2 (by omega) (fun y hy => by show gv (stZ Z lk a0 x0) y (s_told s) = gv Z y (s_told s); rw [gv_st hz0, if_neg (fun z => hy z.1), Nat.add_zero]) hgk
            refine k_iload rfl rfl ?_
            refine k_iload rfl rfl ?_
            refine kn_gt rfl (by omega) (by omega) (fun c123 => ?_) (fun c123 => ?_)
            · exact absurd c123 (by omega)
            · refine k_iload rfl rfl ?_
              refine kb_ne rfl (fun c128 => ?_) (fun c128 => ?_)
              · refine J x0 b h1 v H1 ?_
                rw [c128] at eb
                rw [c128]
                have e9 := (anyN_iff x0).mp eb.symm
                obtain ⟨y, hy1, hy2⟩ := e9
                exact ((anyN_iff (mo + 1)).mpr ⟨y, by omega, hy2⟩).symm
              · refine k_aload rfl rfl ?_
                refine k_getR rfl rfl (sc_c S1 (p a0) hpa).1 (sc_c S1 (p a0) hpa).2.2.2.2.2.2.2.2.2.2.1 ?_
                refine k_iload_n rfl rfl ?_
                refine k_iload rfl rfl ?_
                refine k_iS rfl (sc_c S1 (p a0) hpa).2.2.2.2.1 rfl (show lk < 4 by omega) (by decide) ?_
                refine k_aload rfl rfl ?_
                refine k_dup rfl rfl ?_
                refine k_gI rfl rfl (sc_l S1 lk (by omega)).1 (H2.2.2.2.2.2 lk (by omega)) ?_
                refine k_iload rfl rfl ?_
                refine k_iaddN rfl ?_
                refine k_putI rfl rfl rfl (sc_l S1 lk (by omega)).1 ?_
                refine k_aload_n rfl rfl ?_
                refine k_iload_n rfl rfl ?_
                refine k_iload_n rfl rfl ?_
                refine k_iconst (v := nI 1) rfl (by decide) ?_
                refine k_iaddN rfl ?_
                refine k_iload_n rfl rfl ?_
                refine k_iload rfl rfl ?_
                refine k_isubN rfl (by omega) ?_
                refine k_lload rfl rfl ?_
                refine k_lload rfl rfl ?_
                refine k_cV5 rfl cw_S_isOutdone wd_274 (sc_o S1) rfl (by decide) (Nat.le_of_ble_eq_true rfl) ?_
                refine ih a0 (lk + 1) (left - x0) sum (stZ Z lk a0 x0) _ _ (by omega) ha (by omega) (by omega) hsum H3 (fun l k hh => by unfold stZ; rw [if_neg (by omega)]; exact hz l k (by omega)) (fun l k => by
              unfold stZ
              split
              · omega
              · exact hz5 l k) (fun l hh => by
                  rw [gv_st hz0]
                  by_cases e : l = lk
                  · rw [if_pos ⟨e, hat⟩, e]; omega
                  · rw [if_neg (fun z => e z.1)]; exact hu l hh) (fun h3 H4 => ?_)
                have S3 := sc_fr S0 H4.1 (fun a _ _ k => by rw [H4.2.1])
                refine k_ist11 rfl rfl ?_
                refine k_aload rfl rfl ?_
                refine k_dup rfl rfl ?_
                refine k_gI (x := nI (gv Z lk (s_told s) + x0)) rfl rfl (sc_l S3 lk (by omega)).1 ((H4.2.2.2.2.2 lk (by omega)).trans (by show nI (gv (stZ Z lk a0 x0) lk (s_told s)) = _; rw [hgk])) ?_
                refine k_iload rfl rfl ?_
                refine k_isubN rfl (by omega) ?_
                rw [Nat.add_sub_cancel]
                refine k_putI rfl rfl rfl (sc_l S3 lk (by omega)).1 ?_
                refine k_incN12 rfl rfl ?_
                refine k_goto rfl ?_
                refine ihq (x0 + 1) _ _ x0 (by omega) (tr_t (l := lk) (tl1 := fun l => gv Z l (s_told s)) (pc_m P) bT H4 (by omega) (fun y hy => by show gv Z y (s_told s) = gv (stZ Z lk a0 x0) y (s_told s); rw [gv_st hz0, if_neg (fun z => hy z.1), Nat.add_zero]) rfl) ?_
                simp only [anyN]
                rw [← eb, c128, Bool.false_or]
        · rw [if_pos c56] at hQ
          refine k_aload_n rfl rfl ?_
          refine k_iload_n rfl rfl ?_
          refine k_iconst (v := nI 1) rfl (by decide) ?_
          refine k_iaddN rfl ?_
          refine k_iconst (v := nI 0) rfl (by decide) ?_
          refine k_iload_n rfl rfl ?_
          refine k_lload rfl rfl ?_
          refine k_aload rfl rfl ?_
          refine k_aload rfl rfl ?_
          refine k_getR rfl rfl (sc_c S (p a0) hpa).1 (sc_c S (p a0) hpa).2.2.2.2.2.2.2.2.2.2.1 ?_
          refine k_aload_n rfl rfl ?_
          refine k_getR rfl rfl (sc_o S) (sc_rates S) ?_
          refine k_cVN2 rfl cw_C_finds (nsM (i := 6) rfl) (sc_c S (p a0) hpa).1 rfl (by decide) (Nat.le_of_ble_eq_true rfl) ?_
          refine c_C_finds (f := fun l => Z l a0) I B2 (sc_c S (p a0) hpa).2.2.2.2.1 (A a0 hat) (fun l1 hl1 => by have := hz5 l1 a0; omega) ?_
          refine k_laddN rfl ?_
          refine k_lload rfl rfl ?_
          refine k_cV5 rfl cw_S_isOutdone wd_274 (sc_o S) rfl (by decide) (Nat.le_of_ble_eq_true rfl) ?_
          have hq : (s_told s - (a0 + 1) + 1) * (s_lkr s + 1) = (s_told s - a0) * (s_lkr s + 1) := by rw [show s_told s - (a0 + 1) + 1 = s_told s - a0 by omega]
          rw [Nat.add_mul, Nat.one_mul] at hq
          refine ih (a0 + 1) 0 left _ Z h _ (by omega) (by omega) (Nat.zero_le _) hle (by rw [Nat.add_mul, Nat.one_mul]; omega) H (fun l k hh => hz l k (by omega)) hz5 hu (fun h3 H4 => ?_)
          refine k_zret rfl rfl (bI_nar _) (Nat.le_refl _) (Nat.le_refl _) ?_
          exact hQ h3 H4
      · have hl0 : left = 0 := (nI_eq (b := 0) (by omega) (by decide)).mp c19
        rw [if_pos hl0] at hQ
        refine k_lload rfl rfl ?_
        refine k_aload rfl rfl ?_
        refine k_aload rfl rfl ?_
        refine k_getR rfl rfl (sc_c S (p a0) hpa).1 (sc_c S (p a0) hpa).2.2.2.2.2.2.2.2.2.2.1 ?_
        refine k_aload_n rfl rfl ?_
        refine k_getR rfl rfl (sc_o S) (sc_rates S) ?_
        refine k_cVN2 rfl cw_C_finds (nsM (i := 6) rfl) (sc_c S (p a0) hpa).1 rfl (by decide) (Nat.le_of_ble_eq_true rfl) ?_
        refine c_C_finds (f := fun l => Z l a0) I B2 (sc_c S (p a0) hpa).2.2.2.2.1 (A a0 hat) (fun l1 hl1 => by have := hz5 l1 a0; omega) ?_
        refine k_laddN rfl ?_
        refine k_lload rfl rfl ?_
        refine klN_le rfl rfl (by omega) hD (fun c41 => ?_) (fun c41 => ?_)
        · refine k_iconst (v := nI 0) rfl (by decide) ?_
          refine k_zret rfl rfl (by decide) (Nat.le_refl _) (Nat.le_refl _) ?_
          rw [decide_eq_false (by omega)] at hQ
          exact hQ h H
        · refine k_iconst (v := nI 1) rfl (by decide) ?_
          refine k_goto rfl ?_
          refine k_zret rfl rfl (by decide) (Nat.le_refl _) (Nat.le_refl _) ?_
          rw [decide_eq_true (by omega)] at hQ
          exact hQ h H
    · refine k_iconst (v := nI 0) rfl (by decide) ?_
      refine k_zret rfl rfl (by decide) (Nat.le_refl _) (Nat.le_refl _) ?_
      rw [if_pos (by omega)] at hQ
      exact hQ h H
theorem c_S_tried {g : Gx} {h : Hp} {o d : Nat} {p : Nat → Nat} {s : St} {Q : Option Value → Hp → Prop} (P : PC g h o p s) (I : Inv s) (hQ : ∀ (h1 : Hp) (b : Bool), hp_fr (inC o) h h1 → PC g h1 o p s → trS s b → Q (some (.int (bI b))) h1) : Ct g M_S_tried (d + 60) 0 0 [.ref o] h Q := by
  have S := pc_S P
  have bT := v_told I
  have bL := v_lkr I
  refine ct_of ok_S_tried (by decide) (Nat.le_of_ble_eq_true rfl) [some (.ref o), none] rfl rfl ?_
  have hslb : s_told s * s_lkr s ≤ 160 := Nat.le_trans (Nat.mul_le_mul bT bL) (by decide)
  have hsz := szN_le I (s_lkr s) (Nat.le_refl _)
  have hwo := wo_le I (s_pl s) (s_told s) (Nat.le_refl _)
  refine k_aload_n rfl rfl ?_
  refine k_cV0 rfl cw_S_plannedHours wd_265 (sc_o S) rfl (by decide) (Nat.le_of_ble_eq_true rfl) ?_
  refine c_S_plannedHours P I ?_
  refine k_ist1 rfl rfl ?_
  refine k_aload_n rfl rfl ?_
  refine k_gI rfl rfl (sc_o S) (pc_told P) ?_
  refine k_aload_n rfl rfl ?_
  refine k_gI rfl rfl (sc_o S) (pc_lkr P) ?_
  refine k_imulN rfl ?_
  refine k_bipush (v := nI 12) rfl (by decide) ?_
  refine kn_gt rfl (by omega) (by omega) (fun c16 => ?_) (fun c16 => ?_)
  · refine k_iconst (v := nI 0) rfl (by decide) ?_
    refine k_zret rfl rfl (by decide) (Nat.le_refl _) (Nat.le_refl _) ?_
    exact hQ h false fr_rf P ⟨fun z => (by cases z), fun z => absurd z.1 (by omega)⟩
  · refine k_iload_n rfl rfl ?_
    refine k_iconst (v := nI 5) rfl (by decide) ?_
    refine kn_le rfl (by omega) (by omega) (fun c21 => ?_) (fun c21 => ?_)
    · refine k_iload_n rfl rfl ?_
      refine k_if_eq rfl (fun c27 => ?_) (fun c27 => ?_)
      · refine k_iconst (v := nI 1) rfl (by decide) ?_
        refine k_goto rfl ?_
        refine k_zret rfl rfl (by decide) (Nat.le_refl _) (Nat.le_refl _) ?_
        have hn0 : szN s (s_lkr s) = 0 := (nI_eq (b := 0) (by omega) (by decide)).mp c27
        refine hQ h true fr_rf P ⟨fun _ => ⟨c16, c21, ?_⟩, fun _ => rfl⟩
        rintro ⟨z1, T, ⟨z2, z3⟩, z4, z5⟩
        rw [hn0] at z3
        have e1 : ∀ l k, l < s_lkr s → k < s_told s → TF s T l k = 0 := fun l k hl hk => smT_of0 _ z3 _ (lk_lt hl hk)
        rw [wo_cong (G := fun _ _ => 0) (s_told s) e1] at z5
        have e2 := wo_mono (s := s) (F := fun _ _ => 0) (G := s_pl s) (fun _ _ => Nat.zero_le _) (s_told s)
        omega
      · have hn0 : szN s (s_lkr s) ≠ 0 := fun z => c27 (by rw [z]; rfl)
        have h1L : 0 < s_lkr s := Nat.pos_of_ne_zero (fun z => hn0 (by rw [z]; rfl))
        have h1T : 0 < s_told s := Nat.pos_of_ne_zero (fun z => hn0 (by
          have hgz : ∀ n, szN s n = 0 := by
            intro n
            induction n with
            | zero => rfl
            | succ n ihn => show szN s n + gv (s_pl s) n (s_told s) = 0; rw [ihn, z]; rfl
          exact hgz _))
        have hT12 : s_told s ≤ 12 := Nat.le_trans (Nat.le_mul_of_pos_right _ h1L) c16
        have hfu : (s_told s - 0) * (s_lkr s + 1) + (s_lkr s - 0) < s_told s * (s_lkr s + 1) + s_lkr s + 1 := by rw [Nat.sub_zero, Nat.sub_zero]; omega
        have hfb : s_told s * (s_lkr s + 1) + s_lkr s + 1 ≤ 29 := by rw [Nat.mul_add, Nat.mul_one]; omega
        obtain ⟨f, ef⟩ : ∃ f, f = s_told s * (s_lkr s + 1) + s_lkr s + 1 := ⟨_, rfl⟩
        rw [← ef] at hfu hfb
        have hsz0 : szN (w_pl s (fun _ _ => 0)) (s_lkr s) = 0 := sz_0 s _
        have hiff := ou_iff I (D := wo s (s_pl s) (s_told s)) (n := szN s (s_lkr s)) f 0 0 (szN s (s_lkr s)) 0 (fun _ _ => 0) hfu (Nat.zero_le _) (Nat.zero_le _) (Or.inl h1T) rfl (by rw [hsz0, Nat.zero_add]) (fun _ _ _ => rfl) (fun l _ => by rw [gv_0]; exact Nat.zero_le _)
        have hiff2 : ouN s (wo s (s_pl s) (s_told s)) f 0 0 (szN s (s_lkr s)) 0 (fun _ _ => 0) = true ↔ ∃ T, cmpT (s_told s * s_lkr s) (szN s (s_lkr s)) T ∧ okT s (wo s (s_pl s) (s_told s)) T := by
          rw [hiff, ← tx_iff h1T]
          exact ⟨fun ⟨X, _, gd⟩ => ⟨X, gd⟩, fun ⟨X, gd⟩ => ⟨X, fun l k _ z => absurd z (by omega), gd⟩⟩
        have hT0 : TrH h h o p (s_told s) (fun _ _ => 0) (fun l => gv (fun _ _ => 0) l (s_told s)) := ⟨fr_rf, rfl, rfl, fun _ _ _ _ => rfl, fun i hi l hl => pc_z P (p i) ((pc_m P).1 i (by omega)) l hl, fun l hl => (pc_l P l hl).2.2.1.trans (by show (0 : Int32) = nI (gv (fun _ _ => 0) l (s_told s)); rw [gv_0]; rfl)⟩
        refine k_aload_n rfl rfl ?_
        refine k_iconst (v := nI 0) rfl (by decide) ?_
        refine k_iconst (v := nI 0) rfl (by decide) ?_
        refine k_iload_n rfl rfl ?_
        refine k_lconst (v := lN 0) rfl (by decide) ?_
        refine k_aload_n rfl rfl ?_
        refine k_cV0 rfl cw_S_plannedFinds wd_269 (sc_o S) rfl (by decide) (Nat.le_of_ble_eq_true rfl) ?_
        refine c_S_plannedFinds P I ?_
        refine k_cV5 rfl cw_S_isOutdone wd_274 (sc_o S) rfl (by decide) (Nat.le_of_ble_eq_true rfl) ?_
        rw [show d + 59 = (d + 55 - f) + f + 4 by omega]
        refine c_S_isOutdone P I (by omega) f 0 0 (szN s (s_lkr s)) 0 (fun _ _ => 0) h _ hfu (Nat.zero_le _) (Nat.zero_le _) c21 (Nat.zero_le _) hT0 (fun _ _ _ => rfl) (fun _ _ => Nat.zero_le _) (fun l _ => by rw [gv_0]; exact Nat.zero_le _) (fun h1 H1 => ?_)
        have P1 := pc_tr P H1 (fun l _ => gv_0 l _)
        refine kb_ne rfl (fun c42 => ?_) (fun c42 => ?_)
        · refine k_iconst (v := nI 0) rfl (by decide) ?_
          refine k_zret rfl rfl (by decide) (Nat.le_refl _) (Nat.le_refl _) ?_
          exact hQ h1 false H1.1 P1 ⟨fun z => (by cases z), fun z => absurd ⟨Nat.mul_pos h1T h1L, hiff2.mp c42⟩ z.2.2⟩
        · refine k_iconst (v := nI 1) rfl (by decide) ?_
          refine k_goto rfl ?_
          refine k_zret rfl rfl (by decide) (Nat.le_refl _) (Nat.le_refl _) ?_
          exact hQ h1 true H1.1 P1 ⟨fun _ => ⟨c16, c21, fun z => by have := hiff2.mpr z.2; rw [c42] at this; cases this⟩, fun _ => rfl⟩
    · refine k_iconst (v := nI 0) rfl (by decide) ?_
      refine k_zret rfl rfl (by decide) (Nat.le_refl _) (Nat.le_refl _) ?_
      exact hQ h false fr_rf P ⟨fun z => (by cases z), fun z => absurd z.2.1 (by omega)⟩
