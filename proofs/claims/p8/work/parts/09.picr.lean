/-! THE REFERENCE: its shape: an object at m, its arrays at m + 1 .. m + 13 -/
def ShR (g : Gx) (h : Hp) (m : Nat) : Prop := isO g h m 4 ∧ isA g h (m + 1) 0 40 ∧ isA g h (m + 2) 0 40 ∧ isA g h (m + 3) 0 160 ∧ isA g h (m + 4) 0 4 ∧ isA g h (m + 5) 0 4 ∧ isA g h (m + 6) 2 96 ∧ isA g h (m + 7) 0 160 ∧ isA g h (m + 8) 0 160 ∧ isA g h (m + 9) 0 160 ∧ isA g h (m + 10) 0 200 ∧ isA g h (m + 11) 0 200 ∧ isA g h (m + 12) 0 200 ∧ isA g h (m + 13) 1 200 ∧ hp_r h m 2 = some (m + 1) ∧ hp_r h m 3 = some (m + 2) ∧ hp_r h m 4 = some (m + 3) ∧ hp_r h m 7 = some (m + 4) ∧ hp_r h m 8 = some (m + 5) ∧ hp_r h m 9 = some (m + 6) ∧ hp_r h m 10 = some (m + 7) ∧ hp_r h m 11 = some (m + 8) ∧ hp_r h m 12 = some (m + 9) ∧ hp_r h m 14 = some (m + 10) ∧ hp_r h m 15 = some (m + 11) ∧ hp_r h m 16 = some (m + 12) ∧ hp_r h m 17 = some (m + 13)
theorem sr_o {g : Gx} {h : Hp} {m : Nat} (S : ShR g h m) : isO g h m 4 := S.1
theorem sr_a1 {g : Gx} {h : Hp} {m : Nat} (S : ShR g h m) : isA g h (m + 1) 0 40 := S.2.1
theorem sr_a2 {g : Gx} {h : Hp} {m : Nat} (S : ShR g h m) : isA g h (m + 2) 0 40 := S.2.2.1
theorem sr_a3 {g : Gx} {h : Hp} {m : Nat} (S : ShR g h m) : isA g h (m + 3) 0 160 := S.2.2.2.1
theorem sr_a4 {g : Gx} {h : Hp} {m : Nat} (S : ShR g h m) : isA g h (m + 4) 0 4 := S.2.2.2.2.1
theorem sr_a5 {g : Gx} {h : Hp} {m : Nat} (S : ShR g h m) : isA g h (m + 5) 0 4 := S.2.2.2.2.2.1
theorem sr_a6 {g : Gx} {h : Hp} {m : Nat} (S : ShR g h m) : isA g h (m + 6) 2 96 := S.2.2.2.2.2.2.1
theorem sr_a7 {g : Gx} {h : Hp} {m : Nat} (S : ShR g h m) : isA g h (m + 7) 0 160 := S.2.2.2.2.2.2.2.1
theorem sr_a8 {g : Gx} {h : Hp} {m : Nat} (S : ShR g h m) : isA g h (m + 8) 0 160 := S.2.2.2.2.2.2.2.2.1
theorem sr_a9 {g : Gx} {h : Hp} {m : Nat} (S : ShR g h m) : isA g h (m + 9) 0 160 := S.2.2.2.2.2.2.2.2.2.1
theorem sr_a10 {g : Gx} {h : Hp} {m : Nat} (S : ShR g h m) : isA g h (m + 10) 0 200 := S.2.2.2.2.2.2.2.2.2.2.1
theorem sr_a11 {g : Gx} {h : Hp} {m : Nat} (S : ShR g h m) : isA g h (m + 11) 0 200 := S.2.2.2.2.2.2.2.2.2.2.2.1
theorem sr_a12 {g : Gx} {h : Hp} {m : Nat} (S : ShR g h m) : isA g h (m + 12) 0 200 := S.2.2.2.2.2.2.2.2.2.2.2.2.1
theorem sr_a13 {g : Gx} {h : Hp} {m : Nat} (S : ShR g h m) : isA g h (m + 13) 1 200 := S.2.2.2.2.2.2.2.2.2.2.2.2.2.1
theorem sr_cell {g : Gx} {h : Hp} {m : Nat} (S : ShR g h m) : hp_r h m 2 = some (m + 1) := S.2.2.2.2.2.2.2.2.2.2.2.2.2.2.1
theorem sr_areas {g : Gx} {h : Hp} {m : Nat} (S : ShR g h m) : hp_r h m 3 = some (m + 2) := S.2.2.2.2.2.2.2.2.2.2.2.2.2.2.2.1
theorem sr_count {g : Gx} {h : Hp} {m : Nat} (S : ShR g h m) : hp_r h m 4 = some (m + 3) := S.2.2.2.2.2.2.2.2.2.2.2.2.2.2.2.2.1
theorem sr_rate {g : Gx} {h : Hp} {m : Nat} (S : ShR g h m) : hp_r h m 7 = some (m + 4) := S.2.2.2.2.2.2.2.2.2.2.2.2.2.2.2.2.2.1
theorem sr_hours {g : Gx} {h : Hp} {m : Nat} (S : ShR g h m) : hp_r h m 8 = some (m + 5) := S.2.2.2.2.2.2.2.2.2.2.2.2.2.2.2.2.2.2.1
theorem sr_barred {g : Gx} {h : Hp} {m : Nat} (S : ShR g h m) : hp_r h m 9 = some (m + 6) := S.2.2.2.2.2.2.2.2.2.2.2.2.2.2.2.2.2.2.2.1
theorem sr_plan {g : Gx} {h : Hp} {m : Nat} (S : ShR g h m) : hp_r h m 10 = some (m + 7) := S.2.2.2.2.2.2.2.2.2.2.2.2.2.2.2.2.2.2.2.2.1
theorem sr_trial {g : Gx} {h : Hp} {m : Nat} (S : ShR g h m) : hp_r h m 11 = some (m + 8) := S.2.2.2.2.2.2.2.2.2.2.2.2.2.2.2.2.2.2.2.2.2.1
theorem sr_looked {g : Gx} {h : Hp} {m : Nat} (S : ShR g h m) : hp_r h m 12 = some (m + 9) := S.2.2.2.2.2.2.2.2.2.2.2.2.2.2.2.2.2.2.2.2.2.2.1
theorem sr_lookLooker {g : Gx} {h : Hp} {m : Nat} (S : ShR g h m) : hp_r h m 14 = some (m + 10) := S.2.2.2.2.2.2.2.2.2.2.2.2.2.2.2.2.2.2.2.2.2.2.2.1
theorem sr_lookCell {g : Gx} {h : Hp} {m : Nat} (S : ShR g h m) : hp_r h m 15 = some (m + 11) := S.2.2.2.2.2.2.2.2.2.2.2.2.2.2.2.2.2.2.2.2.2.2.2.2.1
theorem sr_lookHours {g : Gx} {h : Hp} {m : Nat} (S : ShR g h m) : hp_r h m 16 = some (m + 12) := S.2.2.2.2.2.2.2.2.2.2.2.2.2.2.2.2.2.2.2.2.2.2.2.2.2.1
theorem sr_lookTold {g : Gx} {h : Hp} {m : Nat} (S : ShR g h m) : hp_r h m 17 = some (m + 13) := S.2.2.2.2.2.2.2.2.2.2.2.2.2.2.2.2.2.2.2.2.2.2.2.2.2.2
def inR (m : Nat) (a : Nat) : Prop := m ≤ a ∧ a < m + 14
theorem sr_fr {g : Gx} {P : Nat → Prop} {h h1 : Hp} {m : Nat} (S : ShR g h m) (x : hp_fr P h h1) (e : hp_r h1 m = hp_r h m) : ShR g h1 m := by
  unfold ShR
  rw [e]
  exact ⟨fr_O x (sr_o S), fr_A x (sr_a1 S), fr_A x (sr_a2 S), fr_A x (sr_a3 S), fr_A x (sr_a4 S), fr_A x (sr_a5 S), fr_A x (sr_a6 S), fr_A x (sr_a7 S), fr_A x (sr_a8 S), fr_A x (sr_a9 S), fr_A x (sr_a10 S), fr_A x (sr_a11 S), fr_A x (sr_a12 S), fr_A x (sr_a13 S), sr_cell S, sr_areas S, sr_count S, sr_rate S, sr_hours S, sr_barred S, sr_plan S, sr_trial S, sr_looked S, sr_lookLooker S, sr_lookCell S, sr_lookHours S, sr_lookTold S⟩
def PR (g : Gx) (h : Hp) (m : Nat) (s : St) : Prop := ShR g h m ∧ (hp_i h m 0 = nI (s_cells s)) ∧ (hp_i h m 1 = nI (s_told s)) ∧ (∀ k, k < s_told s → hp_i h (m + 1) k = nI (s_num s k)) ∧ (∀ k, k < s_told s → hp_i h (m + 2) k = nI (s_ar s k)) ∧ (∀ t k, t < 4 → k < s_told s → hp_i h (m + 3) (40 * t + k) = nI (s_cn s t k)) ∧ (hp_i h m 5 = nI (s_things s)) ∧ (hp_i h m 6 = nI (s_lkr s)) ∧ (∀ l, l < s_lkr s → hp_i h (m + 4) l = nI (s_rt s l)) ∧ (∀ l, l < s_lkr s → hp_i h (m + 5) l = nI (s_hr s l)) ∧ (∀ l q, l < 4 → q < 24 → hp_i h (m + 6) (24 * l + q) = bI (s_bd s l q)) ∧ (∀ l k, l < 4 → k < 40 → hp_i h (m + 7) (40 * l + k) = nI (s_pl s l k)) ∧ (∀ l k, l < 4 → k < s_told s → hp_i h (m + 9) (40 * l + k) = nI (s_ld s l k)) ∧ (hp_i h m 13 = nI (s_lks s)) ∧ (∀ q, q < s_lks s → hp_i h (m + 10) q = nI (s_gl s q)) ∧ (∀ q, q < s_lks s → hp_i h (m + 11) q = nI (s_gc s q)) ∧ (∀ q, q < s_lks s → hp_i h (m + 12) q = nI (s_gh s q)) ∧ (∀ q, q < s_lks s → hp_j h (m + 13) q = lN (s_gt s q)) ∧ (hp_i h m 18 = sI (s_seen s)) ∧ (hp_j h m 19 = lN (s_ab s)) ∧ (hp_j h m 20 = lN (s_bl s))
theorem pr_S {g : Gx} {h : Hp} {m : Nat} {s : St} (P : PR g h m s) : ShR g h m := P.1
theorem pr_cells {g : Gx} {h : Hp} {m : Nat} {s : St} (P : PR g h m s) : hp_i h m 0 = nI (s_cells s) := P.2.1
theorem pr_told {g : Gx} {h : Hp} {m : Nat} {s : St} (P : PR g h m s) : hp_i h m 1 = nI (s_told s) := P.2.2.1
theorem pr_num {g : Gx} {h : Hp} {m : Nat} {s : St} (P : PR g h m s) : ∀ k, k < s_told s → hp_i h (m + 1) k = nI (s_num s k) := P.2.2.2.1
theorem pr_ar {g : Gx} {h : Hp} {m : Nat} {s : St} (P : PR g h m s) : ∀ k, k < s_told s → hp_i h (m + 2) k = nI (s_ar s k) := P.2.2.2.2.1
theorem pr_cn {g : Gx} {h : Hp} {m : Nat} {s : St} (P : PR g h m s) : ∀ t k, t < 4 → k < s_told s → hp_i h (m + 3) (40 * t + k) = nI (s_cn s t k) := P.2.2.2.2.2.1
theorem pr_things {g : Gx} {h : Hp} {m : Nat} {s : St} (P : PR g h m s) : hp_i h m 5 = nI (s_things s) := P.2.2.2.2.2.2.1
theorem pr_lkr {g : Gx} {h : Hp} {m : Nat} {s : St} (P : PR g h m s) : hp_i h m 6 = nI (s_lkr s) := P.2.2.2.2.2.2.2.1
theorem pr_rt {g : Gx} {h : Hp} {m : Nat} {s : St} (P : PR g h m s) : ∀ l, l < s_lkr s → hp_i h (m + 4) l = nI (s_rt s l) := P.2.2.2.2.2.2.2.2.1
theorem pr_hr {g : Gx} {h : Hp} {m : Nat} {s : St} (P : PR g h m s) : ∀ l, l < s_lkr s → hp_i h (m + 5) l = nI (s_hr s l) := P.2.2.2.2.2.2.2.2.2.1
theorem pr_bd {g : Gx} {h : Hp} {m : Nat} {s : St} (P : PR g h m s) : ∀ l q, l < 4 → q < 24 → hp_i h (m + 6) (24 * l + q) = bI (s_bd s l q) := P.2.2.2.2.2.2.2.2.2.2.1
theorem pr_pl {g : Gx} {h : Hp} {m : Nat} {s : St} (P : PR g h m s) : ∀ l k, l < 4 → k < 40 → hp_i h (m + 7) (40 * l + k) = nI (s_pl s l k) := P.2.2.2.2.2.2.2.2.2.2.2.1
theorem pr_ld {g : Gx} {h : Hp} {m : Nat} {s : St} (P : PR g h m s) : ∀ l k, l < 4 → k < s_told s → hp_i h (m + 9) (40 * l + k) = nI (s_ld s l k) := P.2.2.2.2.2.2.2.2.2.2.2.2.1
theorem pr_lks {g : Gx} {h : Hp} {m : Nat} {s : St} (P : PR g h m s) : hp_i h m 13 = nI (s_lks s) := P.2.2.2.2.2.2.2.2.2.2.2.2.2.1
theorem pr_gl {g : Gx} {h : Hp} {m : Nat} {s : St} (P : PR g h m s) : ∀ q, q < s_lks s → hp_i h (m + 10) q = nI (s_gl s q) := P.2.2.2.2.2.2.2.2.2.2.2.2.2.2.1
theorem pr_gc {g : Gx} {h : Hp} {m : Nat} {s : St} (P : PR g h m s) : ∀ q, q < s_lks s → hp_i h (m + 11) q = nI (s_gc s q) := P.2.2.2.2.2.2.2.2.2.2.2.2.2.2.2.1
theorem pr_gh {g : Gx} {h : Hp} {m : Nat} {s : St} (P : PR g h m s) : ∀ q, q < s_lks s → hp_i h (m + 12) q = nI (s_gh s q) := P.2.2.2.2.2.2.2.2.2.2.2.2.2.2.2.2.1
theorem pr_gt {g : Gx} {h : Hp} {m : Nat} {s : St} (P : PR g h m s) : ∀ q, q < s_lks s → hp_j h (m + 13) q = lN (s_gt s q) := P.2.2.2.2.2.2.2.2.2.2.2.2.2.2.2.2.2.1
theorem pr_seen {g : Gx} {h : Hp} {m : Nat} {s : St} (P : PR g h m s) : hp_i h m 18 = sI (s_seen s) := P.2.2.2.2.2.2.2.2.2.2.2.2.2.2.2.2.2.2.1
theorem pr_ab {g : Gx} {h : Hp} {m : Nat} {s : St} (P : PR g h m s) : hp_j h m 19 = lN (s_ab s) := P.2.2.2.2.2.2.2.2.2.2.2.2.2.2.2.2.2.2.2.1
theorem pr_bl {g : Gx} {h : Hp} {m : Nat} {s : St} (P : PR g h m s) : hp_j h m 20 = lN (s_bl s) := P.2.2.2.2.2.2.2.2.2.2.2.2.2.2.2.2.2.2.2.2
/-- the picture rests on its own cells alone -/
theorem pr_fr {g : Gx} {h h1 : Hp} {m : Nat} {s : St} {B : Nat → Prop} (P : PR g h m s) (x : hp_fr B h h1) (e : ∀ a, inR m a → ¬ B a) : PR g h1 m s := by
  have hi : ∀ a, inR m a → ∀ j, hp_i h1 a j = hp_i h a j := fun a ha j => fr_i x (e a ha) j
  have hj : ∀ a, inR m a → ∀ j, hp_j h1 a j = hp_j h a j := fun a ha j => fr_j x (e a ha) j
  have hm : ∀ q, q < 14 → inR m (m + q) := fun q hq => ⟨by omega, by omega⟩
  have hm0 : inR m m := ⟨by omega, by omega⟩
  exact ⟨sr_fr (pr_S P) x (funext fun j => fr_r x (e m hm0) j),
    ((hi _ hm0 _).trans (pr_cells P)),
    ((hi _ hm0 _).trans (pr_told P)),
    (fun k z0 => (hi _ (hm 1 (by decide)) _).trans (pr_num P k z0)),
    (fun k z0 => (hi _ (hm 2 (by decide)) _).trans (pr_ar P k z0)),
    (fun t k z0 z1 => (hi _ (hm 3 (by decide)) _).trans (pr_cn P t k z0 z1)),
    ((hi _ hm0 _).trans (pr_things P)),
    ((hi _ hm0 _).trans (pr_lkr P)),
    (fun l z0 => (hi _ (hm 4 (by decide)) _).trans (pr_rt P l z0)),
    (fun l z0 => (hi _ (hm 5 (by decide)) _).trans (pr_hr P l z0)),
    (fun l q z0 z1 => (hi _ (hm 6 (by decide)) _).trans (pr_bd P l q z0 z1)),
    (fun l k z0 z1 => (hi _ (hm 7 (by decide)) _).trans (pr_pl P l k z0 z1)),
    (fun l k z0 z1 => (hi _ (hm 9 (by decide)) _).trans (pr_ld P l k z0 z1)),
    ((hi _ hm0 _).trans (pr_lks P)),
    (fun q z0 => (hi _ (hm 10 (by decide)) _).trans (pr_gl P q z0)),
    (fun q z0 => (hi _ (hm 11 (by decide)) _).trans (pr_gc P q z0)),
    (fun q z0 => (hi _ (hm 12 (by decide)) _).trans (pr_gh P q z0)),
    (fun q z0 => (hj _ (hm 13 (by decide)) _).trans (pr_gt P q z0)),
    ((hi _ hm0 _).trans (pr_seen P)),
    ((hj _ hm0 _).trans (pr_ab P)),
    ((hj _ hm0 _).trans (pr_bl P))⟩
