/-! THE CLASS: an object at o; rates o + 1; told cells o + 2; cell j at ca o j with five arrays; lookers o + 243; looker l at la o l with one array; the log at o + 252 with five arrays; gone o + 258 -/
def ca (o j : Nat) : Nat := o + 3 + 6 * j
def la (o l : Nat) : Nat := o + 244 + 2 * l
def cS (g : Gx) (h : Hp) (o j : Nat) : Prop := isO g h (ca o j) 0 ∧ isA g h (ca o j + 1) 0 4 ∧ isA g h (ca o j + 2) 0 4 ∧ isA g h (ca o j + 3) 0 4 ∧ isA g h (ca o j + 4) 0 4 ∧ isA g h (ca o j + 5) 1 4 ∧ True ∧ hp_r h (ca o j) 0 = some (ca o j + 1) ∧ hp_r h (ca o j) 1 = some (ca o j + 2) ∧ hp_r h (ca o j) 2 = some (ca o j + 3) ∧ hp_r h (ca o j) 3 = some (ca o j + 4) ∧ hp_r h (ca o j) 4 = some (ca o j + 5)
def lS (g : Gx) (h : Hp) (o l : Nat) : Prop := isO g h (la o l) 2 ∧ isA g h (la o l + 1) 2 24 ∧ hp_r h (la o l) 0 = some (la o l + 1) ∧ hp_r h (o + 243) l = some (la o l)
def gS (g : Gx) (h : Hp) (o : Nat) : Prop := isO g h (o + 252) 1 ∧ isA g h (o + 253) 0 200 ∧ isA g h (o + 254) 0 200 ∧ isA g h (o + 255) 0 200 ∧ isA g h (o + 256) 1 200 ∧ isA g h (o + 257) 0 200 ∧ hp_r h (o + 252) 0 = some (o + 253) ∧ hp_r h (o + 252) 1 = some (o + 254) ∧ hp_r h (o + 252) 2 = some (o + 255) ∧ hp_r h (o + 252) 3 = some (o + 256) ∧ hp_r h (o + 252) 4 = some (o + 257)
def ShC (g : Gx) (h : Hp) (o : Nat) : Prop := isO g h o 3 ∧ isA g h (o + 1) 0 4 ∧ isA g h (o + 2) 3 40 ∧ (∀ j, j < 40 → cS g h o j) ∧ isA g h (o + 243) 4 4 ∧ (∀ l, l < 4 → lS g h o l) ∧ gS g h o ∧ isA g h (o + 258) 2 720 ∧ hp_r h o 1 = some (o + 2) ∧ hp_r h o 3 = some (o + 243) ∧ hp_r h o 5 = some (o + 1) ∧ hp_r h o 7 = some (o + 252) ∧ hp_r h o 11 = some (o + 258)
theorem sc_o {g : Gx} {h : Hp} {o : Nat} (S : ShC g h o) : isO g h o 3 := S.1
theorem sc_a1 {g : Gx} {h : Hp} {o : Nat} (S : ShC g h o) : isA g h (o + 1) 0 4 := S.2.1
theorem sc_a2 {g : Gx} {h : Hp} {o : Nat} (S : ShC g h o) : isA g h (o + 2) 3 40 := S.2.2.1
theorem sc_c {g : Gx} {h : Hp} {o : Nat} (S : ShC g h o) : ∀ j, j < 40 → cS g h o j := S.2.2.2.1
theorem sc_a243 {g : Gx} {h : Hp} {o : Nat} (S : ShC g h o) : isA g h (o + 243) 4 4 := S.2.2.2.2.1
theorem sc_l {g : Gx} {h : Hp} {o : Nat} (S : ShC g h o) : ∀ l, l < 4 → lS g h o l := S.2.2.2.2.2.1
theorem sc_g {g : Gx} {h : Hp} {o : Nat} (S : ShC g h o) : gS g h o := S.2.2.2.2.2.2.1
theorem sc_a258 {g : Gx} {h : Hp} {o : Nat} (S : ShC g h o) : isA g h (o + 258) 2 720 := S.2.2.2.2.2.2.2.1
theorem sc_told {g : Gx} {h : Hp} {o : Nat} (S : ShC g h o) : hp_r h o 1 = some (o + 2) := S.2.2.2.2.2.2.2.2.1
theorem sc_lkrs {g : Gx} {h : Hp} {o : Nat} (S : ShC g h o) : hp_r h o 3 = some (o + 243) := S.2.2.2.2.2.2.2.2.2.1
theorem sc_rates {g : Gx} {h : Hp} {o : Nat} (S : ShC g h o) : hp_r h o 5 = some (o + 1) := S.2.2.2.2.2.2.2.2.2.2.1
theorem sc_looks {g : Gx} {h : Hp} {o : Nat} (S : ShC g h o) : hp_r h o 7 = some (o + 252) := S.2.2.2.2.2.2.2.2.2.2.2.1
theorem sc_gone {g : Gx} {h : Hp} {o : Nat} (S : ShC g h o) : hp_r h o 11 = some (o + 258) := S.2.2.2.2.2.2.2.2.2.2.2.2
def inC (o : Nat) (a : Nat) : Prop := o ≤ a ∧ a < o + 259
/-- the shape stays where kinds stay and references but those of the told cells' row -/
theorem sc_fr {g : Gx} {P : Nat → Prop} {h h1 : Hp} {o : Nat} (S : ShC g h o) (x : hp_fr P h h1) (e : ∀ a, inC o a → a ≠ o + 2 → ∀ k, hp_r h1 a k = hp_r h a k) : ShC g h1 o := by
  have e0 : ∀ a, o ≤ a → a < o + 259 → a ≠ o + 2 → ∀ k, hp_r h1 a k = hp_r h a k := fun a h1 h2 h3 k => e a ⟨h1, h2⟩ h3 k
  refine ⟨fr_O x (sc_o S), fr_A x (sc_a1 S), fr_A x (sc_a2 S), fun j hj => ?_, fr_A x (sc_a243 S), fun l hl => ?_, ?_, fr_A x (sc_a258 S), ?_, ?_, ?_, ?_, ?_⟩
  · obtain ⟨a0, a1, a2, a3, a4, a5, r0, r1, r2, r3, r4, r5⟩ := sc_c S j hj
    have er : ∀ k, hp_r h1 (ca o j) k = hp_r h (ca o j) k := e0 _ (by unfold ca; omega) (by unfold ca; omega) (by unfold ca; omega)
    exact ⟨fr_O x a0, fr_A x a1, fr_A x a2, fr_A x a3, fr_A x a4, fr_A x a5, trivial, (er 0).trans r1, (er 1).trans r2, (er 2).trans r3, (er 3).trans r4, (er 4).trans r5⟩
  · obtain ⟨a0, a1, r0, r1⟩ := sc_l S l hl
    exact ⟨fr_O x a0, fr_A x a1, (e0 _ (by unfold la; omega) (by unfold la; omega) (by unfold la; omega) 0).trans r0, (e0 _ (by omega) (by omega) (by omega) l).trans r1⟩
  · obtain ⟨a0, a1, a2, a3, a4, a5, r0, r1, r2, r3, r4⟩ := sc_g S
    have er : ∀ k, hp_r h1 (o + 252) k = hp_r h (o + 252) k := e0 _ (by omega) (by omega) (by omega)
    exact ⟨fr_O x a0, fr_A x a1, fr_A x a2, fr_A x a3, fr_A x a4, fr_A x a5, (er 0).trans r0, (er 1).trans r1, (er 2).trans r2, (er 3).trans r3, (er 4).trans r4⟩
  · exact (e0 o (by omega) (by omega) (by omega) 1).trans (sc_told S)
  · exact (e0 o (by omega) (by omega) (by omega) 3).trans (sc_lkrs S)
  · exact (e0 o (by omega) (by omega) (by omega) 5).trans (sc_rates S)
  · exact (e0 o (by omega) (by omega) (by omega) 7).trans (sc_looks S)
  · exact (e0 o (by omega) (by omega) (by omega) 11).trans (sc_gone S)
/-- the told cell i stands in the cell p i -/
def ofp (o : Nat) (p : Nat → Nat) (i : Nat) : Nat := ca o (p i)
def pm (p : Nat → Nat) : Prop := (∀ i, i < 40 → p i < 40) ∧ ∀ i j, i < 40 → j < 40 → p i = p j → i = j
/-- what a told cell holds -/
def cT (h : Hp) (a : Nat) (s : St) (i : Nat) : Prop := hp_i h a 5 = nI (s_num s i) ∧ hp_i h a 6 = nI (s_ar s i) ∧ hp_i h a 7 = nI (720 / s_ar s i) ∧ (∀ t, t < 4 → hp_i h (a + 1) t = nI (s_cn s t i)) ∧ (∀ l, l < 4 → hp_i h (a + 2) l = nI (s_pl s l i)) ∧ ∀ l, l < 4 → hp_i h (a + 3) l = nI (s_ld s l i)
/-- what a spare cell holds -/
def cF (h : Hp) (a : Nat) : Prop := hp_i h a 6 = nI 60 ∧ hp_i h a 7 = nI 12 ∧ (∀ t, t < 4 → hp_i h (a + 1) t = 0) ∧ (∀ l, l < 4 → hp_i h (a + 2) l = 0) ∧ ∀ l, l < 4 → hp_i h (a + 3) l = 0
/-- what a looker holds -/
def lT (h : Hp) (a : Nat) (s : St) (l : Nat) : Prop := (l < s_lkr s → hp_i h a 1 = nI (s_hr s l) ∧ hp_i h a 2 = nI (us s l)) ∧ hp_i h a 3 = nI (gv (s_pl s) l (s_told s)) ∧ hp_i h a 4 = 0 ∧ (∀ q, q < 24 → hp_i h (a + 1) q = bI (s_bd s l q)) ∧ (s_lkr s ≤ l → ∀ q, q < 24 → s_bd s l q = false)
def gT (h : Hp) (o : Nat) (s : St) : Prop := hp_i h (o + 252) 5 = nI (s_lks s) ∧ (∀ q, q < s_lks s → hp_i h (o + 253) q = nI (s_gl s q) ∧ hp_i h (o + 254) q = nI (s_gc s q) ∧ hp_i h (o + 255) q = nI (s_gh s q) ∧ hp_j h (o + 256) q = lN (s_gt s q)) ∧ ∀ q, q < s_lks s → ∃ b, b < s_lks s ∧ hp_i h (o + 257) q = nI b ∧ bfL s b (s_lks s) = q
def PC (g : Gx) (h : Hp) (o : Nat) (p : Nat → Nat) (s : St) : Prop := ShC g h o ∧ (∀ i, i < 40 → hp_r h (o + 2) i = some (ca o (p i))) ∧ (pm p ∧ s_told s ≤ 40) ∧
  (∀ i, i < s_told s → cT h (ca o (p i)) s i) ∧ (∀ i, s_told s ≤ i → i < 40 → cF h (ca o (p i))) ∧ (∀ j, j < 40 → ∀ l, l < 4 → hp_i h (ca o j + 4) l = 0) ∧
  (∀ l, l < 4 → hp_i h (o + 1) l = nI (if l < s_lkr s then s_rt s l else 0)) ∧ (∀ l, l < 4 → lT h (la o l) s l) ∧ gT h o s ∧
  hp_i h o 0 = nI (s_cells s) ∧ hp_i h o 2 = nI (s_told s) ∧ hp_i h o 4 = nI (s_lkr s) ∧ hp_i h o 6 = nI (s_things s) ∧ hp_i h o 8 = sI (s_seen s) ∧ hp_j h o 9 = lN (s_ab s) ∧ hp_j h o 10 = lN (s_bl s)
theorem pc_S {g : Gx} {h : Hp} {o : Nat} {p : Nat → Nat} {s : St} (P : PC g h o p s) : ShC g h o := P.1
theorem pc_r {g : Gx} {h : Hp} {o : Nat} {p : Nat → Nat} {s : St} (P : PC g h o p s) : ∀ i, i < 40 → hp_r h (o + 2) i = some (ca o (p i)) := P.2.1
theorem pc_m {g : Gx} {h : Hp} {o : Nat} {p : Nat → Nat} {s : St} (P : PC g h o p s) : pm p := P.2.2.1.1
theorem pc_told40 {g : Gx} {h : Hp} {o : Nat} {p : Nat → Nat} {s : St} (P : PC g h o p s) : s_told s ≤ 40 := P.2.2.1.2
theorem pc_t {g : Gx} {h : Hp} {o : Nat} {p : Nat → Nat} {s : St} (P : PC g h o p s) : ∀ i, i < s_told s → cT h (ca o (p i)) s i := P.2.2.2.1
theorem pc_f {g : Gx} {h : Hp} {o : Nat} {p : Nat → Nat} {s : St} (P : PC g h o p s) : ∀ i, s_told s ≤ i → i < 40 → cF h (ca o (p i)) := P.2.2.2.2.1
theorem pc_z {g : Gx} {h : Hp} {o : Nat} {p : Nat → Nat} {s : St} (P : PC g h o p s) : ∀ j, j < 40 → ∀ l, l < 4 → hp_i h (ca o j + 4) l = 0 := P.2.2.2.2.2.1
theorem pc_rt {g : Gx} {h : Hp} {o : Nat} {p : Nat → Nat} {s : St} (P : PC g h o p s) : ∀ l, l < 4 → hp_i h (o + 1) l = nI (if l < s_lkr s then s_rt s l else 0) := P.2.2.2.2.2.2.1
theorem pc_l {g : Gx} {h : Hp} {o : Nat} {p : Nat → Nat} {s : St} (P : PC g h o p s) : ∀ l, l < 4 → lT h (la o l) s l := P.2.2.2.2.2.2.2.1
theorem pc_g {g : Gx} {h : Hp} {o : Nat} {p : Nat → Nat} {s : St} (P : PC g h o p s) : gT h o s := P.2.2.2.2.2.2.2.2.1
theorem pc_cells {g : Gx} {h : Hp} {o : Nat} {p : Nat → Nat} {s : St} (P : PC g h o p s) : hp_i h o 0 = nI (s_cells s) := P.2.2.2.2.2.2.2.2.2.1
theorem pc_told {g : Gx} {h : Hp} {o : Nat} {p : Nat → Nat} {s : St} (P : PC g h o p s) : hp_i h o 2 = nI (s_told s) := P.2.2.2.2.2.2.2.2.2.2.1
theorem pc_lkr {g : Gx} {h : Hp} {o : Nat} {p : Nat → Nat} {s : St} (P : PC g h o p s) : hp_i h o 4 = nI (s_lkr s) := P.2.2.2.2.2.2.2.2.2.2.2.1
theorem pc_things {g : Gx} {h : Hp} {o : Nat} {p : Nat → Nat} {s : St} (P : PC g h o p s) : hp_i h o 6 = nI (s_things s) := P.2.2.2.2.2.2.2.2.2.2.2.2.1
theorem pc_seen {g : Gx} {h : Hp} {o : Nat} {p : Nat → Nat} {s : St} (P : PC g h o p s) : hp_i h o 8 = sI (s_seen s) := P.2.2.2.2.2.2.2.2.2.2.2.2.2.1
theorem pc_ab {g : Gx} {h : Hp} {o : Nat} {p : Nat → Nat} {s : St} (P : PC g h o p s) : hp_j h o 9 = lN (s_ab s) := P.2.2.2.2.2.2.2.2.2.2.2.2.2.2.1
theorem pc_bl {g : Gx} {h : Hp} {o : Nat} {p : Nat → Nat} {s : St} (P : PC g h o p s) : hp_j h o 10 = lN (s_bl s) := P.2.2.2.2.2.2.2.2.2.2.2.2.2.2.2
/-- the picture rests on its own cells alone -/
theorem pc_eq {g : Gx} {h h1 : Hp} {o : Nat} {p : Nat → Nat} {s : St} (P : PC g h o p s) (S1 : ShC g h1 o) (hi : ∀ a, o ≤ a → a < o + 258 → ∀ j, hp_i h1 a j = hp_i h a j) (hj : ∀ a, o ≤ a → a < o + 258 → ∀ j, hp_j h1 a j = hp_j h a j) (hr : ∀ a, o ≤ a → a < o + 259 → ∀ j, hp_r h1 a j = hp_r h a j) : PC g h1 o p s := by
  have hp := (pc_m P).1
  refine ⟨S1, fun i h2 => (hr _ (by omega) (by omega) i).trans (pc_r P i h2), ⟨pc_m P, pc_told40 P⟩, fun i h2 => ?_, fun i h2 h3 => ?_, fun j h2 l h3 => (hi _ (by unfold ca; omega) (by unfold ca; omega) l).trans (pc_z P j h2 l h3), fun l h2 => (hi _ (by omega) (by omega) l).trans (pc_rt P l h2), fun l h2 => ?_, ?_, (hi o (by omega) (by omega) 0).trans (pc_cells P), (hi o (by omega) (by omega) 2).trans (pc_told P), (hi o (by omega) (by omega) 4).trans (pc_lkr P), (hi o (by omega) (by omega) 6).trans (pc_things P), (hi o (by omega) (by omega) 8).trans (pc_seen P), (hj o (by omega) (by omega) 9).trans (pc_ab P), (hj o (by omega) (by omega) 10).trans (pc_bl P)⟩
  · obtain ⟨a1, a2, a3, a4, a5, a6⟩ := pc_t P i h2
    have hpi : s_told s ≤ 40 ∨ 40 < s_told s := by omega
    by_cases h4 : i < 40
    · have hb := hp i h4
      have q : ∀ k, k < 6 → ∀ j, hp_i h1 (ca o (p i) + k) j = hp_i h (ca o (p i) + k) j := fun k hk j => hi _ (by unfold ca; omega) (by unfold ca; omega) j
      exact ⟨(q 0 (by omega) 5).trans a1, (q 0 (by omega) 6).trans a2, (q 0 (by omega) 7).trans a3, fun t ht => (q 1 (by omega) t).trans (a4 t ht), fun t ht => (q 2 (by omega) t).trans (a5 t ht), fun t ht => (q 3 (by omega) t).trans (a6 t ht)⟩
    · exact absurd h4 (by have := pc_told40 P; omega)
  · obtain ⟨a2, a3, a4, a5, a6⟩ := pc_f P i h2 h3
    have hb := hp i h3
    have q : ∀ k, k < 6 → ∀ j, hp_i h1 (ca o (p i) + k) j = hp_i h (ca o (p i) + k) j := fun k hk j => hi _ (by unfold ca; omega) (by unfold ca; omega) j
    exact ⟨(q 0 (by omega) 6).trans a2, (q 0 (by omega) 7).trans a3, fun t ht => (q 1 (by omega) t).trans (a4 t ht), fun t ht => (q 2 (by omega) t).trans (a5 t ht), fun t ht => (q 3 (by omega) t).trans (a6 t ht)⟩
  · obtain ⟨a1, a2, a3, a4, a5⟩ := pc_l P l h2
    have q : ∀ k, k < 2 → ∀ j, hp_i h1 (la o l + k) j = hp_i h (la o l + k) j := fun k hk j => hi _ (by unfold la; omega) (by unfold la; omega) j
    exact ⟨fun z => ⟨(q 0 (by omega) 1).trans (a1 z).1, (q 0 (by omega) 2).trans (a1 z).2⟩, (q 0 (by omega) 3).trans a2, (q 0 (by omega) 4).trans a3, fun t ht => (q 1 (by omega) t).trans (a4 t ht), a5⟩
  · obtain ⟨a1, a2, a3⟩ := pc_g P
    refine ⟨(hi _ (by omega) (by omega) 5).trans a1, fun q hq => ?_, fun q hq => ?_⟩
    · obtain ⟨b1, b2, b3, b4⟩ := a2 q hq
      exact ⟨(hi _ (by omega) (by omega) q).trans b1, (hi _ (by omega) (by omega) q).trans b2, (hi _ (by omega) (by omega) q).trans b3, (hj _ (by omega) (by omega) q).trans b4⟩
    · obtain ⟨b, b1, b2, b3⟩ := a3 q hq
      exact ⟨b, b1, (hi _ (by omega) (by omega) q).trans b2, b3⟩
theorem pc_fr0 {g : Gx} {h h1 : Hp} {o : Nat} {p : Nat → Nat} {s : St} {B : Nat → Prop} (P : PC g h o p s) (x : hp_fr B h h1) (e : ∀ a, o ≤ a → a < o + 258 → ¬ B a) (hr0 : ∀ a, inC o a → ∀ k, hp_r h1 a k = hp_r h a k) : PC g h1 o p s :=
  pc_eq P (sc_fr (pc_S P) x (fun a ha _ k => hr0 a ha k)) (fun a h1 h2 j => fr_i x (e a h1 h2) j) (fun a h1 h2 j => fr_j x (e a h1 h2) j) (fun a h1 h2 j => hr0 a ⟨h1, h2⟩ j)
theorem pc_fr {g : Gx} {h h1 : Hp} {o : Nat} {p : Nat → Nat} {s : St} {B : Nat → Prop} (P : PC g h o p s) (x : hp_fr B h h1) (e : ∀ a, inC o a → ¬ B a) : PC g h1 o p s :=
  pc_fr0 P x (fun a h1 h2 => e a ⟨h1, by omega⟩) (fun a ha k => fr_r x (e a ha) k)
/-- the row of squares gone over is no part of it -/
theorem pc_gone {g : Gx} {h h1 : Hp} {o : Nat} {p : Nat → Nat} {s : St} (P : PC g h o p s) (x : hp_fr (fun a => a = o + 258) h h1) (hr : hp_r h1 = hp_r h) : PC g h1 o p s :=
  pc_fr0 P x (fun a h1 h2 => by omega) (fun a _ k => by rw [hr])
/-- nor are the longs of the cells: gains, standings -/
theorem pc_uj {g : Gx} {h h1 : Hp} {o : Nat} {p : Nat → Nat} {s : St} (P : PC g h o p s) (x : hp_fr (inC o) h h1) (hi : hp_i h1 = hp_i h) (hr : hp_r h1 = hp_r h) (hj0 : hp_j h1 o = hp_j h o) (hj1 : hp_j h1 (o + 256) = hp_j h (o + 256)) : PC g h1 o p s := by
  obtain ⟨a1, a2, a3⟩ := pc_g P
  refine ⟨sc_fr (pc_S P) x (fun a _ _ k => by rw [hr]), by rw [hr]; exact pc_r P, ⟨pc_m P, pc_told40 P⟩, ?_, ?_, by rw [hi]; exact pc_z P, by rw [hi]; exact pc_rt P, ?_, ⟨by rw [hi]; exact a1, by rw [hi, hj1]; exact a2, by rw [hi]; exact a3⟩, by rw [hi]; exact pc_cells P, by rw [hi]; exact pc_told P, by rw [hi]; exact pc_lkr P, by rw [hi]; exact pc_things P, by rw [hi]; exact pc_seen P, by rw [hj0]; exact pc_ab P, by rw [hj0]; exact pc_bl P⟩
  · unfold cT; rw [hi]; exact pc_t P
  · unfold cF; rw [hi]; exact pc_f P
  · unfold lT; rw [hi]; exact pc_l P
/-- the picture without the plan -/
def cN (h : Hp) (a : Nat) (s : St) (i : Nat) : Prop := hp_i h a 5 = nI (s_num s i) ∧ hp_i h a 6 = nI (s_ar s i) ∧ hp_i h a 7 = nI (720 / s_ar s i) ∧ (∀ t, t < 4 → hp_i h (a + 1) t = nI (s_cn s t i)) ∧ ∀ l, l < 4 → hp_i h (a + 3) l = nI (s_ld s l i)
def lQ (h : Hp) (a : Nat) (s : St) (l : Nat) : Prop := (l < s_lkr s → hp_i h a 1 = nI (s_hr s l) ∧ hp_i h a 2 = nI (us s l)) ∧ hp_i h a 4 = 0 ∧ (∀ q, q < 24 → hp_i h (a + 1) q = bI (s_bd s l q)) ∧ (s_lkr s ≤ l → ∀ q, q < 24 → s_bd s l q = false)
theorem cN_tr {h h1 : Hp} {a : Nat} {s : St} {i : Nat} (x : cN h a s i) (e : ∀ k, k < 4 → k ≠ 2 → ∀ j, hp_i h1 (a + k) j = hp_i h (a + k) j) : cN h1 a s i := by
  obtain ⟨a1, a2, a3, a4, a6⟩ := x
  exact ⟨(e 0 (by omega) (by omega) 5).trans a1, (e 0 (by omega) (by omega) 6).trans a2, (e 0 (by omega) (by omega) 7).trans a3, fun t ht => (e 1 (by omega) (by omega) t).trans (a4 t ht), fun t ht => (e 3 (by omega) (by omega) t).trans (a6 t ht)⟩
theorem cF_tr {h h1 : Hp} {a : Nat} (x : cF h a) (e : ∀ k, k < 4 → ∀ j, j ≠ 5 → hp_i h1 (a + k) j = hp_i h (a + k) j) : cF h1 a := by
  obtain ⟨a2, a3, a4, a5, a6⟩ := x
  exact ⟨(e 0 (by omega) 6 (by omega)).trans a2, (e 0 (by omega) 7 (by omega)).trans a3, fun t ht => (e 1 (by omega) t (by omega)).trans (a4 t ht), fun t ht => (e 2 (by omega) t (by omega)).trans (a5 t ht), fun t ht => (e 3 (by omega) t (by omega)).trans (a6 t ht)⟩
theorem lQ_tr {h h1 : Hp} {a : Nat} {s : St} {l : Nat} (x : lQ h a s l) (e0 : ∀ j, j ≠ 3 → hp_i h1 a j = hp_i h a j) (e1 : ∀ j, hp_i h1 (a + 1) j = hp_i h (a + 1) j) : lQ h1 a s l := by
  obtain ⟨a1, a3, a4, a5⟩ := x
  exact ⟨fun z => ⟨(e0 1 (by omega)).trans (a1 z).1, (e0 2 (by omega)).trans (a1 z).2⟩, (e0 4 (by omega)).trans a3, fun t ht => (e1 t).trans (a4 t ht), a5⟩
theorem usN_cong {s s1 : St} {l : Nat} (e : ∀ q, s_bd s1 l q = s_bd s l q) : ∀ n, usN s1 l n = usN s l n
  | 0 => rfl
  | n + 1 => by simp only [usN]; rw [usN_cong e n, e n]
theorem us_cg {s s1 : St} {l : Nat} (e1 : s_hr s1 l = s_hr s l) (e2 : ∀ q, s_bd s1 l q = s_bd s l q) : us s1 l = us s l := by
  unfold us
  rw [e1]; exact usN_cong e2 _
theorem lQ_cg {h : Hp} {a : Nat} {s s1 : St} {l : Nat} (x : lQ h a s l) (e1 : s_lkr s1 = s_lkr s) (e2 : s_hr s1 = s_hr s) (e3 : s_bd s1 = s_bd s) : lQ h a s1 l := by
  unfold lQ at x ⊢
  rw [e1, e2, e3, us_cg (s := s) (s1 := s1) (by rw [e2]) (fun q => by rw [e3])]; exact x
theorem bfL_cg {s s1 : St} {b : Nat} (e : s_gt s1 = s_gt s) : ∀ n, bfL s1 b n = bfL s b n
  | 0 => rfl
  | n + 1 => by simp only [bfL]; rw [bfL_cg e n, e]
theorem gT_cg {h : Hp} {o : Nat} {s s1 : St} (x : gT h o s) (e1 : s_lks s1 = s_lks s) (e2 : s_gl s1 = s_gl s) (e3 : s_gc s1 = s_gc s) (e4 : s_gh s1 = s_gh s) (e5 : s_gt s1 = s_gt s) : gT h o s1 := by
  unfold gT at x ⊢
  rw [e1, e2, e3, e4, e5]
  simp only [bfL_cg e5]
  exact x
theorem gT_tr {h h1 : Hp} {o : Nat} {s : St} (x : gT h o s) (ei : ∀ k, 252 ≤ k → k < 258 → ∀ j, hp_i h1 (o + k) j = hp_i h (o + k) j) (ej : ∀ j, hp_j h1 (o + 256) j = hp_j h (o + 256) j) : gT h1 o s := by
  obtain ⟨a1, a2, a3⟩ := x
  refine ⟨(ei 252 (by omega) (by omega) 5).trans a1, fun q hq => ?_, fun q hq => ?_⟩
  · obtain ⟨b1, b2, b3, b4⟩ := a2 q hq
    exact ⟨(ei 253 (by omega) (by omega) q).trans b1, (ei 254 (by omega) (by omega) q).trans b2, (ei 255 (by omega) (by omega) q).trans b3, (ej q).trans b4⟩
  · obtain ⟨b, b1, b2, b3⟩ := a3 q hq
    exact ⟨b, b1, (ei 257 (by omega) (by omega) q).trans b2, b3⟩
def PN (g : Gx) (h : Hp) (o : Nat) (p : Nat → Nat) (s : St) : Prop := ShC g h o ∧ (∀ i, i < 40 → hp_r h (o + 2) i = some (ca o (p i))) ∧ (pm p ∧ s_told s ≤ 40) ∧ 
  (∀ i, i < s_told s → cN h (ca o (p i)) s i) ∧ (∀ i, s_told s ≤ i → i < 40 → cF h (ca o (p i))) ∧ (∀ j, j < 40 → ∀ l, l < 4 → hp_i h (ca o j + 4) l = 0) ∧
  (∀ l, l < 4 → hp_i h (o + 1) l = nI (if l < s_lkr s then s_rt s l else 0)) ∧ (∀ l, l < 4 → lQ h (la o l) s l) ∧ gT h o s ∧
  hp_i h o 0 = nI (s_cells s) ∧ hp_i h o 2 = nI (s_told s) ∧ hp_i h o 4 = nI (s_lkr s) ∧ hp_i h o 6 = nI (s_things s) ∧ hp_i h o 8 = sI (s_seen s) ∧ hp_j h o 9 = lN (s_ab s) ∧ hp_j h o 10 = lN (s_bl s)
theorem pn_S {g : Gx} {h : Hp} {o : Nat} {p : Nat → Nat} {s : St} (N : PN g h o p s) : ShC g h o := N.1
theorem pn_r {g : Gx} {h : Hp} {o : Nat} {p : Nat → Nat} {s : St} (N : PN g h o p s) : ∀ i, i < 40 → hp_r h (o + 2) i = some (ca o (p i)) := N.2.1
theorem pn_m {g : Gx} {h : Hp} {o : Nat} {p : Nat → Nat} {s : St} (N : PN g h o p s) : pm p := N.2.2.1.1
theorem pn_t {g : Gx} {h : Hp} {o : Nat} {p : Nat → Nat} {s : St} (N : PN g h o p s) : ∀ i, i < s_told s → cN h (ca o (p i)) s i := N.2.2.2.1
theorem pn_f {g : Gx} {h : Hp} {o : Nat} {p : Nat → Nat} {s : St} (N : PN g h o p s) : ∀ i, s_told s ≤ i → i < 40 → cF h (ca o (p i)) := N.2.2.2.2.1
theorem pn_z {g : Gx} {h : Hp} {o : Nat} {p : Nat → Nat} {s : St} (N : PN g h o p s) : ∀ j, j < 40 → ∀ l, l < 4 → hp_i h (ca o j + 4) l = 0 := N.2.2.2.2.2.1
theorem pn_rt {g : Gx} {h : Hp} {o : Nat} {p : Nat → Nat} {s : St} (N : PN g h o p s) : ∀ l, l < 4 → hp_i h (o + 1) l = nI (if l < s_lkr s then s_rt s l else 0) := N.2.2.2.2.2.2.1
theorem pn_l {g : Gx} {h : Hp} {o : Nat} {p : Nat → Nat} {s : St} (N : PN g h o p s) : ∀ l, l < 4 → lQ h (la o l) s l := N.2.2.2.2.2.2.2.1
theorem pn_g {g : Gx} {h : Hp} {o : Nat} {p : Nat → Nat} {s : St} (N : PN g h o p s) : gT h o s := N.2.2.2.2.2.2.2.2.1
theorem pn_cells {g : Gx} {h : Hp} {o : Nat} {p : Nat → Nat} {s : St} (N : PN g h o p s) : hp_i h o 0 = nI (s_cells s) := N.2.2.2.2.2.2.2.2.2.1
theorem pn_told {g : Gx} {h : Hp} {o : Nat} {p : Nat → Nat} {s : St} (N : PN g h o p s) : hp_i h o 2 = nI (s_told s) := N.2.2.2.2.2.2.2.2.2.2.1
theorem pn_lkr {g : Gx} {h : Hp} {o : Nat} {p : Nat → Nat} {s : St} (N : PN g h o p s) : hp_i h o 4 = nI (s_lkr s) := N.2.2.2.2.2.2.2.2.2.2.2.1
theorem pn_things {g : Gx} {h : Hp} {o : Nat} {p : Nat → Nat} {s : St} (N : PN g h o p s) : hp_i h o 6 = nI (s_things s) := N.2.2.2.2.2.2.2.2.2.2.2.2.1
theorem pn_seen {g : Gx} {h : Hp} {o : Nat} {p : Nat → Nat} {s : St} (N : PN g h o p s) : hp_i h o 8 = sI (s_seen s) := N.2.2.2.2.2.2.2.2.2.2.2.2.2.1
theorem pn_ab {g : Gx} {h : Hp} {o : Nat} {p : Nat → Nat} {s : St} (N : PN g h o p s) : hp_j h o 9 = lN (s_ab s) := N.2.2.2.2.2.2.2.2.2.2.2.2.2.2.1
theorem pn_bl {g : Gx} {h : Hp} {o : Nat} {p : Nat → Nat} {s : St} (N : PN g h o p s) : hp_j h o 10 = lN (s_bl s) := N.2.2.2.2.2.2.2.2.2.2.2.2.2.2.2
theorem pn_40 {g : Gx} {h : Hp} {o : Nat} {p : Nat → Nat} {s : St} (N : PN g h o p s) : s_told s ≤ 40 := N.2.2.1.2
theorem pn_of {g : Gx} {h : Hp} {o : Nat} {p : Nat → Nat} {s : St} (P : PC g h o p s) : PN g h o p s :=
  ⟨pc_S P, pc_r P, ⟨pc_m P, pc_told40 P⟩, fun i hi => ⟨(pc_t P i hi).1, (pc_t P i hi).2.1, (pc_t P i hi).2.2.1, (pc_t P i hi).2.2.2.1, (pc_t P i hi).2.2.2.2.2⟩, pc_f P, pc_z P, pc_rt P, fun l hl => ⟨(pc_l P l hl).1, (pc_l P l hl).2.2.1, (pc_l P l hl).2.2.2.1, (pc_l P l hl).2.2.2.2⟩, pc_g P, pc_cells P, pc_told P, pc_lkr P, pc_things P, pc_seen P, pc_ab P, pc_bl P⟩
