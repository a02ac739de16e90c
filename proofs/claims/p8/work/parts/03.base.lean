/-! THE ABSTRACT HEAP. hp_n: its size; hp_k: a cell's kind (.inl c an object of class number c, .inr t an array of the type number t); hp_l: an array's length; hp_i, hp_j, hp_r: ints, longs, references by cell and place. An address is itself. -/
abbrev Gx : Type := Launch × (Nat → ClassId) × (Nat → Nat → Nat) × (Nat → ClassId) × Heap × Nat × Nat × (Nat → Int32)
abbrev Hp : Type := Nat × (Nat → Nat ⊕ Nat) × (Nat → Nat) × (Nat → Nat → Int32) × (Nat → Nat → Int64) × (Nat → Nat → Option Nat)
def gx_l (g : Gx) : Launch := g.1
def gx_D (g : Gx) : va_G := (g.2.1, g.2.2.1)
def gx_A (g : Gx) : Nat → ClassId := g.2.2.2.1
def gx_H (g : Gx) : Heap := g.2.2.2.2.1
def gx_B (g : Gx) : Nat := g.2.2.2.2.1.size
/-- the script: where it lies, its length, its ints -/
def gx_b (g : Gx) : Nat := g.2.2.2.2.2.1
def gx_L (g : Gx) : Nat := g.2.2.2.2.2.2.1
def gx_x (g : Gx) : Nat → Int32 := g.2.2.2.2.2.2.2
def hp_n (h : Hp) : Nat := h.1
def hp_k (h : Hp) : Nat → Nat ⊕ Nat := h.2.1
def hp_l (h : Hp) : Nat → Nat := h.2.2.1
def hp_i (h : Hp) : Nat → Nat → Int32 := h.2.2.2.1
def hp_j (h : Hp) : Nat → Nat → Int64 := h.2.2.2.2.1
def hp_r (h : Hp) : Nat → Nat → Option Nat := h.2.2.2.2.2
def up2 {α : Type} (f : Nat → Nat → α) (a k : Nat) (x : α) : Nat → Nat → α := fun b j => if b = a ∧ j = k then x else f b j
theorem up2_s {α : Type} (f : Nat → Nat → α) (a k : Nat) (x : α) : up2 f a k x a k = x := by simp [up2]
theorem up2_a {α : Type} {f : Nat → Nat → α} {a k b j : Nat} {x : α} (h : b ≠ a) : up2 f a k x b j = f b j := by simp [up2, h]
theorem up2_k {α : Type} {f : Nat → Nat → α} {a k b j : Nat} {x : α} (h : j ≠ k) : up2 f a k x b j = f b j := by simp [up2, h]
def hp_ui (h : Hp) (a k : Nat) (x : Int32) : Hp := (h.1, h.2.1, h.2.2.1, up2 h.2.2.2.1 a k x, h.2.2.2.2.1, h.2.2.2.2.2)
def hp_uj (h : Hp) (a k : Nat) (x : Int64) : Hp := (h.1, h.2.1, h.2.2.1, h.2.2.2.1, up2 h.2.2.2.2.1 a k x, h.2.2.2.2.2)
def hp_ur (h : Hp) (a k : Nat) (x : Option Nat) : Hp := (h.1, h.2.1, h.2.2.1, h.2.2.2.1, h.2.2.2.2.1, up2 h.2.2.2.2.2 a k x)
def hp_new (h : Hp) (kd : Nat ⊕ Nat) (len : Nat) : Hp := (h.1 + 1, va_up h.2.1 h.1 kd, va_up h.2.2.1 h.1 len, fun b j => if b = h.1 then 0 else h.2.2.2.1 b j, fun b j => if b = h.1 then 0 else h.2.2.2.2.1 b j, fun b j => if b = h.1 then none else h.2.2.2.2.2 b j)
/-- what a place of that type holds -/
def hp_fv (h : Hp) (ty : FieldType) (a k : Nat) : Value := match ty with
  | .long => .long (hp_j h a k)
  | .object _ => va_rf (hp_r h a k)
  | .array _ => va_rf (hp_r h a k)
  | _ => .int (hp_i h a k)
def ty_I (ty : FieldType) : Bool := match ty with
  | .int => true
  | .boolean => true
  | .byte => true
  | .short => true
  | .char => true
  | _ => false
def ty_R (ty : FieldType) : Bool := match ty with
  | .object _ => true
  | .array _ => true
  | _ => false
def ty_D (ty : FieldType) : Bool := match ty with
  | .float => true
  | .double => true
  | _ => false
theorem hp_fv_I {h : Hp} {ty : FieldType} {a k : Nat} (e : ty_I ty = true) : hp_fv h ty a k = .int (hp_i h a k) := by cases ty <;> first | rfl | cases e
theorem hp_fv_R {h : Hp} {ty : FieldType} {a k : Nat} (e : ty_R ty = true) : hp_fv h ty a k = va_rf (hp_r h a k) := by cases ty <;> first | rfl | cases e
theorem hp_fv_new {h : Hp} {kd : Nat ⊕ Nat} {len : Nat} {ty : FieldType} {k : Nat} (e : ty_D ty = false) : hp_fv (hp_new h kd len) ty (hp_n h) k = defaultValue ty := by
  cases ty <;> first | (simp [hp_fv, hp_new, hp_n, hp_i, hp_j, hp_r, va_rf, defaultValue]; done) | cases e
theorem hp_fv_new_ne {h : Hp} {kd : Nat ⊕ Nat} {len : Nat} {ty : FieldType} {a k : Nat} (e : a ≠ hp_n h) : hp_fv (hp_new h kd len) ty a k = hp_fv h ty a k := by
  have e' : a ≠ h.1 := e
  cases ty <;> simp [hp_fv, hp_new, hp_i, hp_j, hp_r, e']
theorem hp_fv_ui {h : Hp} {a k b j : Nat} {x : Int32} {ty : FieldType} (e : b ≠ a ∨ j ≠ k) : hp_fv (hp_ui h a k x) ty b j = hp_fv h ty b j := by
  have e' : ¬ (b = a ∧ j = k) := fun q => e.elim (fun z => z q.1) (fun z => z q.2)
  cases ty <;> simp [hp_fv, hp_ui, up2, hp_i, hp_j, hp_r, e']
theorem hp_fv_uj {h : Hp} {a k b j : Nat} {x : Int64} {ty : FieldType} (e : b ≠ a ∨ j ≠ k) : hp_fv (hp_uj h a k x) ty b j = hp_fv h ty b j := by
  have e' : ¬ (b = a ∧ j = k) := fun q => e.elim (fun z => z q.1) (fun z => z q.2)
  cases ty <;> simp [hp_fv, hp_uj, up2, hp_i, hp_j, hp_r, e']
theorem hp_fv_ur {h : Hp} {a k b j : Nat} {x : Option Nat} {ty : FieldType} (e : b ≠ a ∨ j ≠ k) : hp_fv (hp_ur h a k x) ty b j = hp_fv h ty b j := by
  have e' : ¬ (b = a ∧ j = k) := fun q => e.elim (fun z => z q.1) (fun z => z q.2)
  cases ty <;> simp [hp_fv, hp_ur, up2, hp_i, hp_j, hp_r, e']
/-- the cell a of the machine's heap is what the abstract one says -/
def hp_at (g : Gx) (h : Hp) (a : Nat) (H : Heap) : Prop := match hp_k h a with
  | .inl c => ∃ r : vw_C, sg_cl[c]? = some r ∧ t_OB a (g.2.1 c) r.2.2 (g.2.2.1 c) H (fun k => hp_fv h (sg_ft c k) a k)
  | .inr t => H[a]? = some (arrV (g.2.2.2.1 t) (hp_l h a) (fun j => hp_fv h (sg_at t) a j))
def Wd (g : Gx) (h : Hp) (H : Heap) : Prop := H.size = hp_n h ∧ gx_B g ≤ hp_n h ∧ (∀ a, a < gx_B g → H[a]? = (gx_H g)[a]?) ∧ ∀ a, gx_B g ≤ a → a < hp_n h → hp_at g h a H
theorem hp_at_kept {g : Gx} {h : Hp} {a : Nat} {H H1 : Heap} (x : hp_at g h a H) (e : H1[a]? = H[a]?) : hp_at g h a H1 := by
  unfold hp_at at x ⊢
  split at x
  · obtain ⟨r, h1, h2⟩ := x
    exact ⟨r, h1, h2.kept e⟩
  · rw [e]; exact x
theorem hp_at_cong {g : Gx} {h h1 : Hp} {a : Nat} {H : Heap} (e1 : hp_k h1 a = hp_k h a) (e2 : hp_l h1 a = hp_l h a) (e3 : ∀ ty j, hp_fv h1 ty a j = hp_fv h ty a j) (x : hp_at g h a H) : hp_at g h1 a H := by
  unfold hp_at at x ⊢
  rw [e1, e2]
  simp only [e3]
  exact x
theorem Wd_set {g : Gx} {h h1 : Hp} {H H1 : Heap} {a : Nat} (x : Wd g h H) (ha : gx_B g ≤ a) (hz : H1.size = H.size) (hn : hp_n h1 = hp_n h) (hq : ∀ q, q ≠ a → H1[q]? = H[q]?) (hat : hp_at g h1 a H1)
    (hk : hp_k h1 = hp_k h) (hl : hp_l h1 = hp_l h) (hf : ∀ q, q ≠ a → ∀ ty j, hp_fv h1 ty q j = hp_fv h ty q j) : Wd g h1 H1 := by
  obtain ⟨x1, x2, x3, x4⟩ := x
  refine ⟨by rw [hz, x1, hn], by rw [hn]; exact x2, fun q hb => ?_, fun q hb hlt => ?_⟩
  · rw [hq q (by omega)]; exact x3 q hb
  · by_cases e : q = a
    · subst e; exact hat
    · rw [hn] at hlt
      exact hp_at_kept (hp_at_cong (by rw [hk]) (by rw [hl]) (hf q e) (x4 q hb hlt)) (hq q e)
theorem Wd_new {g : Gx} {h : Hp} {H H1 : Heap} {kd : Nat ⊕ Nat} {len : Nat} (x : Wd g h H) (hz : H1.size = H.size + 1) (hq : ∀ q, q < H.size → H1[q]? = H[q]?) (hat : hp_at g (hp_new h kd len) (hp_n h) H1) : Wd g (hp_new h kd len) H1 := by
  obtain ⟨x1, x2, x3, x4⟩ := x
  have e0 : hp_n (hp_new h kd len) = hp_n h + 1 := rfl
  refine ⟨by rw [hz, x1, e0], by rw [e0]; omega, fun q hb => ?_, fun q hb hlt => ?_⟩
  · rw [hq q (by rw [x1]; omega)]; exact x3 q hb
  · by_cases e : q = hp_n h
    · subst e; exact hat
    · rw [e0] at hlt
      refine hp_at_kept (hp_at_cong ?_ ?_ (fun ty j => hp_fv_new_ne e) (x4 q hb (by omega))) (hq q (by rw [x1]; omega))
      · show va_up h.2.1 h.1 kd q = h.2.1 q
        exact va_up_ne _ _ e
      · show va_up h.2.2.1 h.1 len q = h.2.2.1 q
        exact va_up_ne _ _ e
/-- the tables -/
def tb_tys (g : Gx) : List (ClassId × FieldType) := (List.range sg_na).map (fun t => (g.2.2.2.1 t, sg_at t))
theorem tb_get {g : Gx} {t : Nat} (h : t < sg_na) : (tb_tys g)[t]? = some (g.2.2.2.1 t, sg_at t) := by
  simp [tb_tys, h]
def Tb (g : Gx) (U : State) : Prop := va_K (gx_D g) sg_cl (tb_tys g) U ∧ (∀ w ∈ sg_nest, va_Nw w U) ∧ (∀ C ∈ sg_refs, va_AO C U) ∧ va_X (gx_b g) (gx_L g) (gx_x g) U (gx_H g)
theorem Tb_moved {g : Gx} {s U : State} (h : Tb g s) (hW : s.WarmedH U.vm) : Tb g U :=
  ⟨va_K.moved hW.alike h.1, fun w hw => sg_nest_warm hW w hw (h.2.1 w hw), fun C hC => (h.2.2.1 C hC).moved hW.alike, va_X.moved hW.alike h.2.2.2⟩
theorem Tb_same {g : Gx} {s U : State} (h : Tb g s) (e : s.vm = U.vm) : Tb g U :=
  ⟨va_K.moved (by rw [e]; exact Vm.Alike.refl _) h.1, fun w hw => (h.2.1 w hw).same (sg_nest_tab w hw) e, fun C hC => (h.2.2.1 C hC).moved (by rw [e]; exact Vm.Alike.refl _), va_X.moved (by rw [e]; exact Vm.Alike.refl _) h.2.2.2⟩
/-! METHODS: name, bytes, locals, answer, and a table of the instructions: pc, instruction, its length, the next pc, two numbers (a jump's goal; a field's class and place; a class; ..) -/
abbrev En : Type := Nat × Instr × Nat × Nat × Nat × Nat
abbrev Md : Type := MethodName × ByteArray × Nat × Option FieldType × List En
def md_y (M : Md) : MethodName := M.1
def md_b (M : Md) : ByteArray := M.2.1
def md_n (M : Md) : Nat := M.2.2.1
def md_r (M : Md) : Option FieldType := M.2.2.2.1
def md_t (M : Md) : List En := M.2.2.2.2
def en_f : List En → Nat → Option (Instr × Nat × Nat × Nat × Nat)
  | [], _ => none
  | q :: r, pc => cond (Nat.beq q.1 pc) (some q.2) (en_f r pc)
def md_f (M : Md) (pc : Nat) : Option (Instr × Nat × Nat × Nat × Nat) := en_f M.2.2.2.2 pc
theorem en_f_mem : ∀ {l : List En} {pc : Nat} {q : Instr × Nat × Nat × Nat × Nat}, en_f l pc = some q → (pc, q) ∈ l
  | [], _, _, h => by cases h
  | a :: r, pc, q, h => by
    unfold en_f at h
    cases e : Nat.beq a.1 pc with
    | true =>
      rw [e] at h
      have h1 : a.2 = q := Option.some.inj h
      have h2 : a.1 = pc := Nat.eq_of_beq_eq_true e
      rw [← h1, ← h2]
      exact List.mem_cons_self
    | false =>
      rw [e] at h
      exact List.mem_cons_of_mem _ (en_f_mem h)
def en_off : Instr → Option Int
  | .goto o => some o
  | .ifCond _ o => some o
  | .if_icmp _ o => some o
  | .ifnull o => some o
  | .ifnonnull o => some o
  | .if_acmp _ o => some o
  | _ => none
def en_jmp (q : En) : Bool := match en_off q.2.1 with
  | some o => decide ((q.1 : Int) + o = (q.2.2.2.2.1 : Int))
  | none => true
def en_dec (b : ByteArray) (q : En) : Bool := decide (decode b q.1 = .ok (q.2.1, q.2.2.1)) && (decide (q.2.2.2.1 = q.1 + q.2.2.1) && en_jmp q)
/-- a field's link, the class's own or a nest mate's -/
def fd_ok (own : String) (idx ci k : Nat) : Prop := ∃ r : vw_C, sg_cl[ci]? = some r ∧ k < r.2.2 ∧ (Cond.fieldLink own idx (r.2.1 k).1 (r.2.1 k).2.1 (r.2.1 k).2.2.1 ∈ sg_tbl ∨ Cond.fieldLinkNest own idx (r.2.1 k).1 (r.2.1 k).2.1 (r.2.1 k).2.2.1 sg_host ∈ sg_nest)
def en_lk (own : String) (q : En) : Prop := match q.2.1 with
  | .getfield i => fd_ok own i q.2.2.2.2.1 q.2.2.2.2.2
  | .putfield i => fd_ok own i q.2.2.2.2.1 q.2.2.2.2.2
  | _ => True
def md_ok (M : Md) : Prop := ((md_t M).all (en_dec (md_b M))) = true ∧ ∀ q ∈ md_t M, en_lk (md_y M).cls q
theorem md_get {M : Md} (hM : md_ok M) {pc idx len n x y : Nat} (hf : md_f M pc = some (.getfield idx, len, n, x, y)) : fd_ok (md_y M).cls idx x y := hM.2 _ (en_f_mem hf)
theorem md_put {M : Md} (hM : md_ok M) {pc idx len n x y : Nat} (hf : md_f M pc = some (.putfield idx, len, n, x, y)) : fd_ok (md_y M).cls idx x y := hM.2 _ (en_f_mem hf)
theorem md_dec {M : Md} (hM : md_ok M) {pc : Nat} {i : Instr} {len n x y : Nat} (hf : md_f M pc = some (i, len, n, x, y)) : decode (md_b M) pc = .ok (i, len) ∧ n = pc + len ∧ ∀ o, en_off i = some o → (pc : Int) + o = (x : Int) := by
  have h := List.all_eq_true.mp hM.1 _ (en_f_mem hf)
  unfold en_dec at h
  simp only [Bool.and_eq_true, decide_eq_true_eq] at h
  refine ⟨h.1, h.2.1, fun o ho => ?_⟩
  have h3 := h.2.2
  unfold en_jmp at h3
  simp only [ho, decide_eq_true_eq] at h3
  exact h3
def md_ws (M : Md) : List Cond := .code M.1 M.2.1 M.2.2.1 M.2.2.2.1 :: sg_tbl
/-! THE LOCALS -/
def lc_p : Nat → List (Option Value) → List (Nat × Value)
  | _, [] => []
  | i, none :: r => lc_p (i + 1) r
  | i, some v :: r => (i, v) :: lc_p (i + 1) r
theorem lc_mem : ∀ (L : List (Option Value)) (i : Nat) (q : Nat × Value), q ∈ lc_p i L → ∃ k, L[k]? = some (some q.2) ∧ q.1 = i + k
  | [], _, q, h => by simp [lc_p] at h
  | none :: r, i, q, h => by
    obtain ⟨k, h1, h2⟩ := lc_mem r (i + 1) q h
    exact ⟨k + 1, by simpa using h1, by omega⟩
  | some v :: r, i, q, h => by
    rcases List.mem_cons.mp h with h | h
    · subst h
      exact ⟨0, rfl, rfl⟩
    · obtain ⟨k, h1, h2⟩ := lc_mem r (i + 1) q h
      exact ⟨k + 1, by simpa using h1, by omega⟩
theorem lc_in : ∀ (L : List (Option Value)) (i k : Nat) (v : Value), L[k]? = some (some v) → (i + k, v) ∈ lc_p i L
  | [], _, k, v, h => by simp at h
  | a :: r, i, 0, v, h => by
    have e : a = some v := by simpa using h
    subst e
    exact List.mem_cons_self
  | a :: r, i, k + 1, v, h => by
    have h1 : r[k]? = some (some v) := by simpa using h
    have h2 := lc_in r (i + 1) k v h1
    have e : i + 1 + k = i + (k + 1) := by omega
    rw [e] at h2
    cases a with
    | none => exact h2
    | some w => exact List.mem_cons_of_mem _ h2
def lvk (ls : Array Slot) (nL : Nat) (L : List (Option Value)) : Prop := lv_has ls nL (lc_p 0 L) ∧ L.length = nL
theorem lvk_at {ls : Array Slot} {nL : Nat} {L : List (Option Value)} (h : lvk ls nL L) {i : Nat} {v : Value} (e : L[i]? = some (some v)) : ls[i]? = some (.val v) := by
  have h1 := lc_in L 0 i v e
  rw [Nat.zero_add] at h1
  exact h.1.2.2 (i, v) h1
/-- the value is of one word, or nothing is known -/
def lc_1 (a : Option Value) : Bool := match a with
  | some (.long _) => false
  | some (.double _) => false
  | _ => true
theorem lc_1_cat {v : Value} (h : lc_1 (some v) = true) : v.category = 1 := by cases v <;> first | rfl | cases h
def lc_s (L : List (Option Value)) (i : Nat) : Bool := match i with
  | 0 => true
  | i + 1 => lc_1 (L.getD i none)
theorem lc_st1 {ls : Array Slot} {nL : Nat} {L : List (Option Value)} {i : Nat} {v : Value} {ls1 : Array Slot} (h : lvk ls nL L) (hs : lc_s L i = true)
    (h1 : lv_has ls1 nL ((i, v) :: (lc_p 0 L).filter (fun q => !(q.1 == i) && !(q.1 + 1 == i && q.2.category == 2)))) : lvk ls1 nL (L.set i (some v)) := by
  refine ⟨⟨h1.1, h1.2.1, fun q hq => ?_⟩, by rw [List.length_set]; exact h.2⟩
  obtain ⟨k, hk, e⟩ := lc_mem _ _ _ hq
  rw [Nat.zero_add] at e
  subst e
  apply h1.2.2
  by_cases e : q.1 = i
  · rw [List.getElem?_set] at hk
    subst e
    have h2 : q.2 = v := by
      split at hk
      · split at hk
        · exact (Option.some.inj (Option.some.inj hk)).symm
        · cases hk
      · contradiction
    rw [← h2]
    exact List.mem_cons_self
  · rw [List.getElem?_set_ne (Ne.symm e)] at hk
    refine List.mem_cons_of_mem _ (List.mem_filter.mpr ⟨?_, ?_⟩)
    · have h3 := lc_in L 0 q.1 q.2 hk
      rw [Nat.zero_add] at h3
      exact h3
    · simp only [Bool.and_eq_true, Bool.not_eq_true', beq_eq_false_iff_ne, ne_eq, Bool.and_eq_false_iff]
      refine ⟨e, ?_⟩
      by_cases e2 : q.1 + 1 = i
      · right
        subst e2
        have h4 : L.getD q.1 none = some q.2 := by simp [List.getD, hk]
        have h5 : lc_1 (some q.2) = true := by
          have : lc_s L (q.1 + 1) = lc_1 (L.getD q.1 none) := rfl
          rw [← h4, ← this]; exact hs
        have h6 := lc_1_cat h5
        omega
      · exact Or.inl e2
theorem lc_st2 {ls : Array Slot} {nL : Nat} {L : List (Option Value)} {i : Nat} {v : Value} {ls1 : Array Slot} (h : lvk ls nL L) (hs : lc_s L i = true)
    (h1 : lv_has ls1 nL ((i, v) :: (lc_p 0 L).filter (fun q => !(q.1 == i) && (!(q.1 == i + 1) && !(q.1 + 1 == i && q.2.category == 2))))) : lvk ls1 nL ((L.set i (some v)).set (i + 1) none) := by
  refine ⟨⟨h1.1, h1.2.1, fun q hq => ?_⟩, by rw [List.length_set, List.length_set]; exact h.2⟩
  obtain ⟨k, hk, e⟩ := lc_mem _ _ _ hq
  rw [Nat.zero_add] at e
  subst e
  apply h1.2.2
  have en : q.1 ≠ i + 1 := by
    intro e
    rw [List.getElem?_set] at hk
    rw [if_pos e.symm] at hk
    split at hk <;> cases hk
  rw [List.getElem?_set_ne (Ne.symm en)] at hk
  by_cases e : q.1 = i
  · rw [List.getElem?_set] at hk
    subst e
    have h2 : q.2 = v := by
      split at hk
      · split at hk
        · exact (Option.some.inj (Option.some.inj hk)).symm
        · cases hk
      · contradiction
    rw [← h2]
    exact List.mem_cons_self
  · rw [List.getElem?_set_ne (Ne.symm e)] at hk
    refine List.mem_cons_of_mem _ (List.mem_filter.mpr ⟨?_, ?_⟩)
    · have h3 := lc_in L 0 q.1 q.2 hk
      rw [Nat.zero_add] at h3
      exact h3
    · simp only [Bool.and_eq_true, Bool.not_eq_true', beq_eq_false_iff_ne, ne_eq, Bool.and_eq_false_iff]
      refine ⟨e, en, ?_⟩
      by_cases e2 : q.1 + 1 = i
      · right
        subst e2
        have h4 : L.getD q.1 none = some q.2 := by simp [List.getD, hk]
        have h5 : lc_1 (some q.2) = true := by
          have : lc_s L (q.1 + 1) = lc_1 (L.getD q.1 none) := rfl
          rw [← h4, ← this]; exact hs
        have h6 := lc_1_cat h5
        omega
      · exact Or.inl e2
/-- the locals with which a method begins -/
def lc_a : List Value → Nat → List (Option Value)
  | [], n => List.replicate n none
  | .long x :: r, n => some (.long x) :: none :: lc_a r (n - 2)
  | .double x :: r, n => some (.double x) :: none :: lc_a r (n - 2)
  | v :: r, n => some v :: lc_a r (n - 1)
theorem lc_a_args : ∀ (vs : List Value) (n i : Nat) (q : Nat × Value), q ∈ lc_p i (lc_a vs n) → q ∈ lv_args i vs
  | [], n, i, q, h => by
    obtain ⟨k, h1, -⟩ := lc_mem _ _ _ h
    simp only [lc_a] at h1
    rw [List.getElem?_replicate] at h1
    split at h1 <;> cases h1
  | v :: r, n, i, q, h => by
    cases v <;> first
      | (have h1 : q ∈ (i, _) :: lc_p (i + 1 + 1) (lc_a r (n - 2)) := h
         rcases List.mem_cons.mp h1 with e | e
         · subst e; exact List.mem_cons_self
         · exact List.mem_cons_of_mem _ (lc_a_args r (n - 2) (i + 2) q e))
      | (have h1 : q ∈ (i, _) :: lc_p (i + 1) (lc_a r (n - 1)) := h
         rcases List.mem_cons.mp h1 with e | e
         · subst e; exact List.mem_cons_self
         · exact List.mem_cons_of_mem _ (lc_a_args r (n - 1) (i + 1) q e))
/-! THE JUDGEMENT -/
def Cx (g : Gx) (M : Md) (p : Program) (s : State) (m : MethodId) (args : Array Value) (meth : Method) (c : Code) : Prop :=
  p.tables.exec = Jvm.exec ∧ c.code = md_b M ∧ c.maxLocals = md_n M ∧ meth.sig.returnType = md_r M ∧ s.vm.findClass (md_y M).cls = some m.cls ∧ (∀ w ∈ sg_tbl, w.before args s = true) ∧ meth.locks = false ∧ Tb g s ∧ meth.name = (md_y M).name ∧ gx_B g ≤ s.heap.size ∧ md_ok M
abbrev Zx : Type := List Frame → Array Value → State → State → Prop
/-- from this point of the method M the machine comes to Z -/
def Ok (g : Gx) (M : Md) (R : Room) (Z : Zx) (kc ks : Nat) (h : Hp) (pc : Nat) (L : List (Option Value)) (st : List Value) : Prop :=
  ∀ (p : Program) (e : Env) (s : State) (m : MethodId) (args : Array Value) (below : List Frame) (meth : Method) (c : Code) (H : Heap) (locs : List Loc) (ls : Array Slot),
    Cx g M p s m args meth c → Wd g h H → (∀ q ∈ locs, gx_B g ≤ q.base) → lvk ls (md_n M) L → W p (gx_l g) e R s m args below meth c H locs kc ks (Z below args s) (F0 m pc ls st)
def Qx (g : Gx) (Q : Option Value → Hp → Prop) : Array Value → State → Outcome → State → Prop := fun _ _ o t => ∃ (r : Option Value) (h : Hp), o = .returned r ∧ Q r h ∧ Wd g h t.heap ∧ Tb g t
def rmd (d mc ms : Nat) : Room := { frames := d, cells := mc, slots := ms, locals := 48 * d }
def Zm (g : Gx) (mc ms : Nat) (Q : Option Value → Hp → Prop) : Zx := fun below args s => MQ below (Qx g Q) args s mc ms (fun q => gx_B g ≤ q)
/-- the contract: at depth d, with mc cells of ms slots at most -/
def Ct (g : Gx) (M : Md) (d mc ms : Nat) (As : List Value) (h : Hp) (Q : Option Value → Hp → Prop) : Prop :=
  Met (gx_l g) (md_y M) (md_ws M) (rmd d mc ms) (va_Pc As (fun U => Wd g h U.heap ∧ Tb g U)) (Qx g Q) mc ms (fun q => gx_B g ≤ q)
set_option maxHeartbeats 1000000 in
theorem ct_of {g : Gx} {M : Md} {d mc ms : Nat} {As : List Value} {h : Hp} {Q : Option Value → Hp → Prop} (hM : md_ok M) (hy : plainName (md_y M).cls = true) (hl : (lg_sl As).length ≤ md_n M) (L : List (Option Value)) (hL : lc_a As (md_n M) = L) (hL2 : L.length = md_n M)
    (k : Ok g M (rmd d mc ms) (Zm g mc ms Q) 0 0 h 0 L []) : Ct g M d mc ms As h Q := by
  refine Met.ofW (cc := md_b M) (maxL := md_n M) (ret := md_r M) hy rfl ?_
  intro p e s m args below meth c s₁ B hml hv
  obtain ⟨rfl, hW, hT⟩ := hv
  have hts := atoms_spec (ws := md_ws M) B.pre
  have he := lv_entry As hl
  rw [lg_entry_eq]
  refine k p e s m As.toArray below meth c s.heap [] _ ⟨B.exec, B.bytes, hml, B.returns, findClass_of_methodNamed B.named, fun w hw => hts w (List.mem_cons_of_mem _ hw), B.notSynchronized, hT, (name_of_methodNamed B.named B.method).1, ?_, hM⟩ hW (fun q hq => by cases hq) ⟨⟨he.1, he.2.1, fun q hq => he.2.2 q ?_⟩, hL2⟩
  · rw [hW.1]; exact hW.2.1
  · rw [← hL] at hq
    exact lc_a_args As (md_n M) 0 q hq
section ROWS
variable {g : Gx} {M : Md} {R : Room} {Z : Zx} {kc ks : Nat} {h : Hp} {pc : Nat} {L : List (Option Value)} {st : List Value}
theorem k_iconst {n x0 y0 : Nat} {i : Int} {v : Int32} (hf : md_f M pc = some (.iconst i, 1, n, x0, y0)) (hv : Int32.ofInt i = v) (k : Ok g M R Z kc ks h n L (.int v :: st)) : Ok g M R Z kc ks h pc L (st) := by
  intro p e s m args below meth c H locs ls C hW hF hl
  obtain ⟨hd, hn, ho⟩ := md_dec C.2.2.2.2.2.2.2.2.2.2 hf
  subst hn
  exact lv_iconst C.1 C.2.1 hd hv (k p e s m args below meth c H locs ls C hW hF hl)
theorem k_bipush {n x0 y0 : Nat} {i : Int} {v : Int32} (hf : md_f M pc = some (.bipush i, 2, n, x0, y0)) (hv : (Int8.ofInt i).toInt32 = v) (k : Ok g M R Z kc ks h n L (.int v :: st)) : Ok g M R Z kc ks h pc L (st) := by
  intro p e s m args below meth c H locs ls C hW hF hl
  obtain ⟨hd, hn, ho⟩ := md_dec C.2.2.2.2.2.2.2.2.2.2 hf
  subst hn
  exact lv_bipush C.1 C.2.1 hd hv (k p e s m args below meth c H locs ls C hW hF hl)
theorem k_sipush {n x0 y0 : Nat} {i : Int} {v : Int32} (hf : md_f M pc = some (.sipush i, 3, n, x0, y0)) (hv : (Int16.ofInt i).toInt32 = v) (k : Ok g M R Z kc ks h n L (.int v :: st)) : Ok g M R Z kc ks h pc L (st) := by
  intro p e s m args below meth c H locs ls C hW hF hl
  obtain ⟨hd, hn, ho⟩ := md_dec C.2.2.2.2.2.2.2.2.2.2 hf
  subst hn
  exact lv_sipush C.1 C.2.1 hd hv (k p e s m args below meth c H locs ls C hW hF hl)
theorem k_lconst {n x0 y0 : Nat} {i : Fin 2} {v : Int64} (hf : md_f M pc = some (.lconst i, 1, n, x0, y0)) (hv : Int64.ofNat (i : Nat) = v) (k : Ok g M R Z kc ks h n L (.long v :: st)) : Ok g M R Z kc ks h pc L (st) := by
  intro p e s m args below meth c H locs ls C hW hF hl
  obtain ⟨hd, hn, ho⟩ := md_dec C.2.2.2.2.2.2.2.2.2.2 hf
  subst hn
  exact lv_lconst C.1 C.2.1 hd hv (k p e s m args below meth c H locs ls C hW hF hl)
theorem k_null {n x0 y0 : Nat}  (hf : md_f M pc = some (.aconst_null, 1, n, x0, y0))  (k : Ok g M R Z kc ks h n L (.null :: st)) : Ok g M R Z kc ks h pc L (st) := by
  intro p e s m args below meth c H locs ls C hW hF hl
  obtain ⟨hd, hn, ho⟩ := md_dec C.2.2.2.2.2.2.2.2.2.2 hf
  subst hn
  exact lv_null C.1 C.2.1 hd  (k p e s m args below meth c H locs ls C hW hF hl)
theorem k_ldc {n x0 y0 : Nat} {idx : Nat} {v : Int32} (hf : md_f M pc = some (.ldc idx, 2, n, x0, y0)) (hw : Cond.constant (md_y M).cls idx v ∈ sg_tbl) (k : Ok g M R Z kc ks h n L (.int v :: st)) : Ok g M R Z kc ks h pc L st := by
  intro p e s m args below meth c H locs ls C hW hF hl
  obtain ⟨hd, hn, ho⟩ := md_dec C.2.2.2.2.2.2.2.2.2.2 hf
  subst hn
  exact lv_ldc C.1 C.2.1 C.2.2.2.2.1 (C.2.2.2.2.2.1 _ hw) hd (k p e s m args below meth c H locs ls C hW hF hl)
theorem k_ldc2 {n x0 y0 : Nat} {idx : Nat} {v : Int64} (hf : md_f M pc = some (.ldc2_w idx, 3, n, x0, y0)) (hw : Cond.constantLong (md_y M).cls idx v ∈ sg_tbl) (k : Ok g M R Z kc ks h n L (.long v :: st)) : Ok g M R Z kc ks h pc L st := by
  intro p e s m args below meth c H locs ls C hW hF hl
  obtain ⟨hd, hn, ho⟩ := md_dec C.2.2.2.2.2.2.2.2.2.2 hf
  subst hn
  exact lv_ldc2 C.1 C.2.1 C.2.2.2.2.1 (C.2.2.2.2.2.1 _ hw) hd (k p e s m args below meth c H locs ls C hW hF hl)
theorem k_iload {n x0 y0 : Nat} {i : Nat} {x : Int32} (hf : md_f M pc = some (.iload i, 2, n, x0, y0)) (hx : L[i]? = some (some (.int x))) (k : Ok g M R Z kc ks h n L (.int x :: st)) : Ok g M R Z kc ks h pc L st := by
  intro p e s m args below meth c H locs ls C hW hF hl
  obtain ⟨hd, hn, ho⟩ := md_dec C.2.2.2.2.2.2.2.2.2.2 hf
  subst hn
  exact lv_iload C.1 C.2.1 hd (lvk_at hl hx) (k p e s m args below meth c H locs ls C hW hF hl)
theorem k_iload_n {n x0 y0 : Nat} {i : Fin 4} {x : Int32} (hf : md_f M pc = some (.iload_n i, 1, n, x0, y0)) (hx : L[(i : Nat)]? = some (some (.int x))) (k : Ok g M R Z kc ks h n L (.int x :: st)) : Ok g M R Z kc ks h pc L st := by
  intro p e s m args below meth c H locs ls C hW hF hl
  obtain ⟨hd, hn, ho⟩ := md_dec C.2.2.2.2.2.2.2.2.2.2 hf
  subst hn
  exact lv_iload_n C.1 C.2.1 hd rfl (lvk_at hl hx) (k p e s m args below meth c H locs ls C hW hF hl)
theorem k_lload {n x0 y0 : Nat} {i : Nat} {x : Int64} (hf : md_f M pc = some (.lload i, 2, n, x0, y0)) (hx : L[i]? = some (some (.long x))) (k : Ok g M R Z kc ks h n L (.long x :: st)) : Ok g M R Z kc ks h pc L st := by
  intro p e s m args below meth c H locs ls C hW hF hl
  obtain ⟨hd, hn, ho⟩ := md_dec C.2.2.2.2.2.2.2.2.2.2 hf
  subst hn
  exact lv_lload C.1 C.2.1 hd (lvk_at hl hx) (k p e s m args below meth c H locs ls C hW hF hl)
theorem k_lload_n {n x0 y0 : Nat} {i : Fin 4} {x : Int64} (hf : md_f M pc = some (.lload_n i, 1, n, x0, y0)) (hx : L[(i : Nat)]? = some (some (.long x))) (k : Ok g M R Z kc ks h n L (.long x :: st)) : Ok g M R Z kc ks h pc L st := by
  intro p e s m args below meth c H locs ls C hW hF hl
  obtain ⟨hd, hn, ho⟩ := md_dec C.2.2.2.2.2.2.2.2.2.2 hf
  subst hn
  exact lv_lload_n C.1 C.2.1 hd rfl (lvk_at hl hx) (k p e s m args below meth c H locs ls C hW hF hl)
theorem k_aload {n x0 y0 : Nat} {i : Nat} {x : Nat} (hf : md_f M pc = some (.aload i, 2, n, x0, y0)) (hx : L[i]? = some (some (.ref x))) (k : Ok g M R Z kc ks h n L (.ref x :: st)) : Ok g M R Z kc ks h pc L st := by
  intro p e s m args below meth c H locs ls C hW hF hl
  obtain ⟨hd, hn, ho⟩ := md_dec C.2.2.2.2.2.2.2.2.2.2 hf
  subst hn
  exact lv_aload C.1 C.2.1 hd (lvk_at hl hx) (k p e s m args below meth c H locs ls C hW hF hl)
theorem k_aload_n {n x0 y0 : Nat} {i : Fin 4} {x : Nat} (hf : md_f M pc = some (.aload_n i, 1, n, x0, y0)) (hx : L[(i : Nat)]? = some (some (.ref x))) (k : Ok g M R Z kc ks h n L (.ref x :: st)) : Ok g M R Z kc ks h pc L st := by
  intro p e s m args below meth c H locs ls C hW hF hl
  obtain ⟨hd, hn, ho⟩ := md_dec C.2.2.2.2.2.2.2.2.2.2 hf
  subst hn
  exact lv_aload_n C.1 C.2.1 hd rfl (lvk_at hl hx) (k p e s m args below meth c H locs ls C hW hF hl)
theorem k_istore {n x0 y0 : Nat} {i : Nat} {x : Int32} {L1 : List (Option Value)} (hf : md_f M pc = some (.istore i, 2, n, x0, y0)) (hi : i < L.length) (hs : lc_s L i = true) (hL : L.set i (some (.int x)) = L1) (k : Ok g M R Z kc ks h n L1 st) : Ok g M R Z kc ks h pc L (.int x :: st) := by
  intro p e s m args below meth c H locs ls C hW hF hl
  obtain ⟨hd, hn, ho⟩ := md_dec C.2.2.2.2.2.2.2.2.2.2 hf
  subst hn
  subst hL
  exact lv_istore C.1 C.2.1 hd hl.1 (by rw [← hl.2]; exact hi) rfl (fun ls1 h1 => k p e s m args below meth c H locs ls1 C hW hF (lc_st1 hl hs h1))
theorem k_istore_n {n x0 y0 : Nat} {i : Fin 4} {x : Int32} {L1 : List (Option Value)} (hf : md_f M pc = some (.istore_n i, 1, n, x0, y0)) (hi : (i : Nat) < L.length) (hs : lc_s L (i : Nat) = true) (hL : L.set (i : Nat) (some (.int x)) = L1) (k : Ok g M R Z kc ks h n L1 st) : Ok g M R Z kc ks h pc L (.int x :: st) := by
  intro p e s m args below meth c H locs ls C hW hF hl
  obtain ⟨hd, hn, ho⟩ := md_dec C.2.2.2.2.2.2.2.2.2.2 hf
  subst hn
  subst hL
  exact lv_istore_n C.1 C.2.1 hd rfl hl.1 (by rw [← hl.2]; exact hi) rfl (fun ls1 h1 => k p e s m args below meth c H locs ls1 C hW hF (lc_st1 hl hs h1))
theorem k_lstore {n x0 y0 : Nat} {i : Nat} {x : Int64} {L1 : List (Option Value)} (hf : md_f M pc = some (.lstore i, 2, n, x0, y0)) (hi : i + 1 < L.length) (hs : lc_s L i = true) (hL : (L.set i (some (.long x))).set (i + 1) none = L1) (k : Ok g M R Z kc ks h n L1 st) : Ok g M R Z kc ks h pc L (.long x :: st) := by
  intro p e s m args below meth c H locs ls C hW hF hl
  obtain ⟨hd, hn, ho⟩ := md_dec C.2.2.2.2.2.2.2.2.2.2 hf
  subst hn
  subst hL
  exact lv_lstore C.1 C.2.1 hd hl.1 (by rw [← hl.2]; exact hi) rfl (fun ls1 h1 => k p e s m args below meth c H locs ls1 C hW hF (lc_st2 hl hs h1))
theorem k_lstore_n {n x0 y0 : Nat} {i : Fin 4} {x : Int64} {L1 : List (Option Value)} (hf : md_f M pc = some (.lstore_n i, 1, n, x0, y0)) (hi : (i : Nat) + 1 < L.length) (hs : lc_s L (i : Nat) = true) (hL : (L.set (i : Nat) (some (.long x))).set ((i : Nat) + 1) none = L1) (k : Ok g M R Z kc ks h n L1 st) : Ok g M R Z kc ks h pc L (.long x :: st) := by
  intro p e s m args below meth c H locs ls C hW hF hl
  obtain ⟨hd, hn, ho⟩ := md_dec C.2.2.2.2.2.2.2.2.2.2 hf
  subst hn
  subst hL
  exact lv_lstore_n C.1 C.2.1 hd rfl hl.1 (by rw [← hl.2]; exact hi) rfl (fun ls1 h1 => k p e s m args below meth c H locs ls1 C hW hF (lc_st2 hl hs h1))
theorem k_astore {n x0 y0 : Nat} {i : Nat} {x : Nat} {L1 : List (Option Value)} (hf : md_f M pc = some (.astore i, 2, n, x0, y0)) (hi : i < L.length) (hs : lc_s L i = true) (hL : L.set i (some (.ref x)) = L1) (k : Ok g M R Z kc ks h n L1 st) : Ok g M R Z kc ks h pc L (.ref x :: st) := by
  intro p e s m args below meth c H locs ls C hW hF hl
  obtain ⟨hd, hn, ho⟩ := md_dec C.2.2.2.2.2.2.2.2.2.2 hf
  subst hn
  subst hL
  exact lv_astore C.1 C.2.1 hd hl.1 (by rw [← hl.2]; exact hi) rfl (fun ls1 h1 => k p e s m args below meth c H locs ls1 C hW hF (lc_st1 hl hs h1))
theorem k_astore_n {n x0 y0 : Nat} {i : Fin 4} {x : Nat} {L1 : List (Option Value)} (hf : md_f M pc = some (.astore_n i, 1, n, x0, y0)) (hi : (i : Nat) < L.length) (hs : lc_s L (i : Nat) = true) (hL : L.set (i : Nat) (some (.ref x)) = L1) (k : Ok g M R Z kc ks h n L1 st) : Ok g M R Z kc ks h pc L (.ref x :: st) := by
  intro p e s m args below meth c H locs ls C hW hF hl
  obtain ⟨hd, hn, ho⟩ := md_dec C.2.2.2.2.2.2.2.2.2.2 hf
  subst hn
  subst hL
  exact lv_astore_n C.1 C.2.1 hd rfl hl.1 (by rw [← hl.2]; exact hi) rfl (fun ls1 h1 => k p e s m args below meth c H locs ls1 C hW hF (lc_st1 hl hs h1))
theorem k_iinc {n x0 y0 : Nat} {i : Nat} {u : Int} {x v : Int32} {L1 : List (Option Value)} (hf : md_f M pc = some (.iinc i u, 3, n, x0, y0)) (hx : L[i]? = some (some (.int x))) (hv : x + Int32.ofInt u = v) (hs : lc_s L i = true) (hL : L.set i (some (.int v)) = L1) (k : Ok g M R Z kc ks h n L1 st) : Ok g M R Z kc ks h pc L st := by
  intro p e s m args below meth c H locs ls C hW hF hl
  obtain ⟨hd, hn, ho⟩ := md_dec C.2.2.2.2.2.2.2.2.2.2 hf
  subst hn
  subst hL
  have h1 := lc_in L 0 i _ hx
  rw [Nat.zero_add] at h1
  obtain ⟨q, hq⟩ := List.getElem?_of_mem h1
  have hi : i < L.length := (List.getElem?_eq_some_iff.mp hx).1
  exact lv_iinc C.1 C.2.1 hd hl.1 (k := q) hq hv (by rw [← hl.2]; exact hi) rfl (fun ls1 h1 => k p e s m args below meth c H locs ls1 C hW hF (lc_st1 hl hs h1))
theorem k_iadd {n x0 y0 : Nat} {x y : Int32} (hf : md_f M pc = some (.iadd, 1, n, x0, y0))  (k : Ok g M R Z kc ks h n L (.int (x + y) :: st)) : Ok g M R Z kc ks h pc L (.int y :: .int x :: st) := by
  intro p e s m args below meth c H locs ls C hW hF hl
  obtain ⟨hd, hn, ho⟩ := md_dec C.2.2.2.2.2.2.2.2.2.2 hf
  subst hn
  exact lv_iadd C.1 C.2.1 hd  (k p e s m args below meth c H locs ls C hW hF hl)
theorem k_isub {n x0 y0 : Nat} {x y : Int32} (hf : md_f M pc = some (.isub, 1, n, x0, y0))  (k : Ok g M R Z kc ks h n L (.int (x - y) :: st)) : Ok g M R Z kc ks h pc L (.int y :: .int x :: st) := by
  intro p e s m args below meth c H locs ls C hW hF hl
  obtain ⟨hd, hn, ho⟩ := md_dec C.2.2.2.2.2.2.2.2.2.2 hf
  subst hn
  exact lv_isub C.1 C.2.1 hd  (k p e s m args below meth c H locs ls C hW hF hl)
theorem k_imul {n x0 y0 : Nat} {x y : Int32} (hf : md_f M pc = some (.imul, 1, n, x0, y0))  (k : Ok g M R Z kc ks h n L (.int (x * y) :: st)) : Ok g M R Z kc ks h pc L (.int y :: .int x :: st) := by
  intro p e s m args below meth c H locs ls C hW hF hl
  obtain ⟨hd, hn, ho⟩ := md_dec C.2.2.2.2.2.2.2.2.2.2 hf
  subst hn
  exact lv_imul C.1 C.2.1 hd  (k p e s m args below meth c H locs ls C hW hF hl)
theorem k_iand {n x0 y0 : Nat} {x y : Int32} (hf : md_f M pc = some (.iand, 1, n, x0, y0))  (k : Ok g M R Z kc ks h n L (.int (x &&& y) :: st)) : Ok g M R Z kc ks h pc L (.int y :: .int x :: st) := by
  intro p e s m args below meth c H locs ls C hW hF hl
  obtain ⟨hd, hn, ho⟩ := md_dec C.2.2.2.2.2.2.2.2.2.2 hf
  subst hn
  exact lv_iand C.1 C.2.1 hd  (k p e s m args below meth c H locs ls C hW hF hl)
theorem k_ior {n x0 y0 : Nat} {x y : Int32} (hf : md_f M pc = some (.ior, 1, n, x0, y0))  (k : Ok g M R Z kc ks h n L (.int (x ||| y) :: st)) : Ok g M R Z kc ks h pc L (.int y :: .int x :: st) := by
  intro p e s m args below meth c H locs ls C hW hF hl
  obtain ⟨hd, hn, ho⟩ := md_dec C.2.2.2.2.2.2.2.2.2.2 hf
  subst hn
  exact lv_ior C.1 C.2.1 hd  (k p e s m args below meth c H locs ls C hW hF hl)
theorem k_ixor {n x0 y0 : Nat} {x y : Int32} (hf : md_f M pc = some (.ixor, 1, n, x0, y0))  (k : Ok g M R Z kc ks h n L (.int (x ^^^ y) :: st)) : Ok g M R Z kc ks h pc L (.int y :: .int x :: st) := by
  intro p e s m args below meth c H locs ls C hW hF hl
  obtain ⟨hd, hn, ho⟩ := md_dec C.2.2.2.2.2.2.2.2.2.2 hf
  subst hn
  exact lv_ixor C.1 C.2.1 hd  (k p e s m args below meth c H locs ls C hW hF hl)
theorem k_idiv {n x0 y0 : Nat} {x y : Int32} (hf : md_f M pc = some (.idiv, 1, n, x0, y0)) (hy : ¬ y = 0) (k : Ok g M R Z kc ks h n L (.int (x / y) :: st)) : Ok g M R Z kc ks h pc L (.int y :: .int x :: st) := by
  intro p e s m args below meth c H locs ls C hW hF hl
  obtain ⟨hd, hn, ho⟩ := md_dec C.2.2.2.2.2.2.2.2.2.2 hf
  subst hn
  exact lv_idiv C.1 C.2.1 hd hy (k p e s m args below meth c H locs ls C hW hF hl)
theorem k_irem {n x0 y0 : Nat} {x y : Int32} (hf : md_f M pc = some (.irem, 1, n, x0, y0)) (hy : ¬ y = 0) (k : Ok g M R Z kc ks h n L (.int (x - x / y * y) :: st)) : Ok g M R Z kc ks h pc L (.int y :: .int x :: st) := by
  intro p e s m args below meth c H locs ls C hW hF hl
  obtain ⟨hd, hn, ho⟩ := md_dec C.2.2.2.2.2.2.2.2.2.2 hf
  subst hn
  exact lv_irem C.1 C.2.1 hd hy (k p e s m args below meth c H locs ls C hW hF hl)
theorem k_ladd {n x0 y0 : Nat} {x y : Int64} (hf : md_f M pc = some (.ladd, 1, n, x0, y0))  (k : Ok g M R Z kc ks h n L (.long (x + y) :: st)) : Ok g M R Z kc ks h pc L (.long y :: .long x :: st) := by
  intro p e s m args below meth c H locs ls C hW hF hl
  obtain ⟨hd, hn, ho⟩ := md_dec C.2.2.2.2.2.2.2.2.2.2 hf
  subst hn
  exact lv_ladd C.1 C.2.1 hd  (k p e s m args below meth c H locs ls C hW hF hl)
theorem k_lsub {n x0 y0 : Nat} {x y : Int64} (hf : md_f M pc = some (.lsub, 1, n, x0, y0))  (k : Ok g M R Z kc ks h n L (.long (x - y) :: st)) : Ok g M R Z kc ks h pc L (.long y :: .long x :: st) := by
  intro p e s m args below meth c H locs ls C hW hF hl
  obtain ⟨hd, hn, ho⟩ := md_dec C.2.2.2.2.2.2.2.2.2.2 hf
  subst hn
  exact lv_lsub C.1 C.2.1 hd  (k p e s m args below meth c H locs ls C hW hF hl)
theorem k_lmul {n x0 y0 : Nat} {x y : Int64} (hf : md_f M pc = some (.lmul, 1, n, x0, y0))  (k : Ok g M R Z kc ks h n L (.long (x * y) :: st)) : Ok g M R Z kc ks h pc L (.long y :: .long x :: st) := by
  intro p e s m args below meth c H locs ls C hW hF hl
  obtain ⟨hd, hn, ho⟩ := md_dec C.2.2.2.2.2.2.2.2.2.2 hf
  subst hn
  exact lv_lmul C.1 C.2.1 hd  (k p e s m args below meth c H locs ls C hW hF hl)
theorem k_ldiv {n x0 y0 : Nat} {x y : Int64} (hf : md_f M pc = some (.ldiv, 1, n, x0, y0)) (hy : ¬ y = 0) (k : Ok g M R Z kc ks h n L (.long (x / y) :: st)) : Ok g M R Z kc ks h pc L (.long y :: .long x :: st) := by
  intro p e s m args below meth c H locs ls C hW hF hl
  obtain ⟨hd, hn, ho⟩ := md_dec C.2.2.2.2.2.2.2.2.2.2 hf
  subst hn
  exact lv_ldiv C.1 C.2.1 hd hy (k p e s m args below meth c H locs ls C hW hF hl)
theorem k_lrem {n x0 y0 : Nat} {x y : Int64} (hf : md_f M pc = some (.lrem, 1, n, x0, y0)) (hy : ¬ y = 0) (k : Ok g M R Z kc ks h n L (.long (x - x / y * y) :: st)) : Ok g M R Z kc ks h pc L (.long y :: .long x :: st) := by
  intro p e s m args below meth c H locs ls C hW hF hl
  obtain ⟨hd, hn, ho⟩ := md_dec C.2.2.2.2.2.2.2.2.2.2 hf
  subst hn
  exact lv_lrem C.1 C.2.1 hd hy (k p e s m args below meth c H locs ls C hW hF hl)
theorem k_i2l {n x0 y0 : Nat} {x : Int32} (hf : md_f M pc = some (.i2l, 1, n, x0, y0))  (k : Ok g M R Z kc ks h n L (.long x.toInt64 :: st)) : Ok g M R Z kc ks h pc L (.int x :: st) := by
  intro p e s m args below meth c H locs ls C hW hF hl
  obtain ⟨hd, hn, ho⟩ := md_dec C.2.2.2.2.2.2.2.2.2.2 hf
  subst hn
  exact lv_i2l C.1 C.2.1 hd rfl (k p e s m args below meth c H locs ls C hW hF hl)
theorem k_l2i {n x0 y0 : Nat} {x : Int64} (hf : md_f M pc = some (.l2i, 1, n, x0, y0))  (k : Ok g M R Z kc ks h n L (.int x.toInt32 :: st)) : Ok g M R Z kc ks h pc L (.long x :: st) := by
  intro p e s m args below meth c H locs ls C hW hF hl
  obtain ⟨hd, hn, ho⟩ := md_dec C.2.2.2.2.2.2.2.2.2.2 hf
  subst hn
  exact lv_l2i C.1 C.2.1 hd rfl (k p e s m args below meth c H locs ls C hW hF hl)
theorem k_lcmp {n x0 y0 : Nat} {x y : Int64} (hf : md_f M pc = some (.lcmp, 1, n, x0, y0))  (k : Ok g M R Z kc ks h n L (.int (lg_cmp x y) :: st)) : Ok g M R Z kc ks h pc L (.long y :: .long x :: st) := by
  intro p e s m args below meth c H locs ls C hW hF hl
  obtain ⟨hd, hn, ho⟩ := md_dec C.2.2.2.2.2.2.2.2.2.2 hf
  subst hn
  exact W.lcmp C.1 C.2.1 hd  (k p e s m args below meth c H locs ls C hW hF hl)
theorem k_ineg {n x0 y0 : Nat} {x : Int32} (hf : md_f M pc = some (.ineg, 1, n, x0, y0))  (k : Ok g M R Z kc ks h n L (.int (-x) :: st)) : Ok g M R Z kc ks h pc L (.int x :: st) := by
  intro p e s m args below meth c H locs ls C hW hF hl
  obtain ⟨hd, hn, ho⟩ := md_dec C.2.2.2.2.2.2.2.2.2.2 hf
  subst hn
  exact lv_ineg C.1 C.2.1 hd  (k p e s m args below meth c H locs ls C hW hF hl)
theorem k_lneg {n x0 y0 : Nat} {x : Int64} (hf : md_f M pc = some (.lneg, 1, n, x0, y0))  (k : Ok g M R Z kc ks h n L (.long (-x) :: st)) : Ok g M R Z kc ks h pc L (.long x :: st) := by
  intro p e s m args below meth c H locs ls C hW hF hl
  obtain ⟨hd, hn, ho⟩ := md_dec C.2.2.2.2.2.2.2.2.2.2 hf
  subst hn
  exact lv_lneg C.1 C.2.1 hd  (k p e s m args below meth c H locs ls C hW hF hl)
theorem k_dup {n x0 y0 : Nat} {a : Value} (hf : md_f M pc = some (.dup, 1, n, x0, y0)) (ha : a.category = 1) (k : Ok g M R Z kc ks h n L (a :: a :: st)) : Ok g M R Z kc ks h pc L (a :: st) := by
  intro p e s m args below meth c H locs ls C hW hF hl
  obtain ⟨hd, hn, ho⟩ := md_dec C.2.2.2.2.2.2.2.2.2.2 hf
  subst hn
  exact lv_dup C.1 C.2.1 hd ha (k p e s m args below meth c H locs ls C hW hF hl)
theorem k_pop {n x0 y0 : Nat} {a : Value} (hf : md_f M pc = some (.pop, 1, n, x0, y0)) (ha : a.category = 1) (k : Ok g M R Z kc ks h n L (st)) : Ok g M R Z kc ks h pc L (a :: st) := by
  intro p e s m args below meth c H locs ls C hW hF hl
  obtain ⟨hd, hn, ho⟩ := md_dec C.2.2.2.2.2.2.2.2.2.2 hf
  subst hn
  exact lv_pop C.1 C.2.1 hd ha (k p e s m args below meth c H locs ls C hW hF hl)
theorem k_dup2 {n x0 y0 : Nat} {a b : Value} (hf : md_f M pc = some (.dup2, 1, n, x0, y0)) (ha : a.category = 1) (hb : b.category = 1) (k : Ok g M R Z kc ks h n L (a :: b :: a :: b :: st)) : Ok g M R Z kc ks h pc L (a :: b :: st) := by
  intro p e s m args below meth c H locs ls C hW hF hl
  obtain ⟨hd, hn, ho⟩ := md_dec C.2.2.2.2.2.2.2.2.2.2 hf
  subst hn
  exact lv_dup2_11 C.1 C.2.1 hd ha hb (k p e s m args below meth c H locs ls C hW hF hl)
theorem k_dup_x1 {n x0 y0 : Nat} {a b : Value} (hf : md_f M pc = some (.dup_x1, 1, n, x0, y0)) (ha : a.category = 1) (hb : b.category = 1) (k : Ok g M R Z kc ks h n L (a :: b :: a :: st)) : Ok g M R Z kc ks h pc L (a :: b :: st) := by
  intro p e s m args below meth c H locs ls C hW hF hl
  obtain ⟨hd, hn, ho⟩ := md_dec C.2.2.2.2.2.2.2.2.2.2 hf
  subst hn
  exact lv_dup_x1 C.1 C.2.1 hd ha hb (k p e s m args below meth c H locs ls C hW hF hl)
theorem k_dup_x2 {n x0 y0 : Nat} {a b d : Value} (hf : md_f M pc = some (.dup_x2, 1, n, x0, y0)) (ha : a.category = 1) (hb : b.category = 1) (hc : d.category = 1) (k : Ok g M R Z kc ks h n L (a :: b :: d :: a :: st)) : Ok g M R Z kc ks h pc L (a :: b :: d :: st) := by
  intro p e s m args below meth c H locs ls C hW hF hl
  obtain ⟨hd, hn, ho⟩ := md_dec C.2.2.2.2.2.2.2.2.2.2 hf
  subst hn
  exact lv_dup_x2 C.1 C.2.1 hd ha hb hc (k p e s m args below meth c H locs ls C hW hF hl)
theorem k_dup2_2 {n x0 y0 : Nat} {a : Value} (hf : md_f M pc = some (.dup2, 1, n, x0, y0)) (ha : a.category = 2) (k : Ok g M R Z kc ks h n L (a :: a :: st)) : Ok g M R Z kc ks h pc L (a :: st) := by
  intro p e s m args below meth c H locs ls C hW hF hl
  obtain ⟨hd, hn, ho⟩ := md_dec C.2.2.2.2.2.2.2.2.2.2 hf
  subst hn
  exact lv_dup2_2 C.1 C.2.1 hd ha (k p e s m args below meth c H locs ls C hW hF hl)
theorem k_pop2_2 {n x0 y0 : Nat} {a : Value} (hf : md_f M pc = some (.pop2, 1, n, x0, y0)) (ha : a.category = 2) (k : Ok g M R Z kc ks h n L (st)) : Ok g M R Z kc ks h pc L (a :: st) := by
  intro p e s m args below meth c H locs ls C hW hF hl
  obtain ⟨hd, hn, ho⟩ := md_dec C.2.2.2.2.2.2.2.2.2.2 hf
  subst hn
  exact lv_pop2_2 C.1 C.2.1 hd ha (k p e s m args below meth c H locs ls C hW hF hl)
theorem k_icmp_eq {n x0 y0 : Nat} {o : Int} {x y : Int32} (hf : md_f M pc = some (.if_icmp .eq o, 3, n, x0, y0)) (kt : x = y → Ok g M R Z kc ks h x0 L st) (kf : ¬ (x = y) → Ok g M R Z kc ks h n L st) : Ok g M R Z kc ks h pc L (.int y :: .int x :: st) := by
  intro p e s m args below meth c H locs ls C hW hF hl
  obtain ⟨hd, hn, ho⟩ := md_dec C.2.2.2.2.2.2.2.2.2.2 hf
  subst hn
  exact lv_icmp_eq C.1 C.2.1 hd (ho _ rfl) (fun q => kt q p e s m args below meth c H locs ls C hW hF hl) (fun q => kf q p e s m args below meth c H locs ls C hW hF hl)
theorem k_if_eq {n x0 y0 : Nat} {o : Int} {x : Int32} (hf : md_f M pc = some (.ifCond .eq o, 3, n, x0, y0)) (kt : x = 0 → Ok g M R Z kc ks h x0 L st) (kf : ¬ (x = 0) → Ok g M R Z kc ks h n L st) : Ok g M R Z kc ks h pc L (.int x :: st) := by
  intro p e s m args below meth c H locs ls C hW hF hl
  obtain ⟨hd, hn, ho⟩ := md_dec C.2.2.2.2.2.2.2.2.2.2 hf
  subst hn
  exact lv_if_eq C.1 C.2.1 hd (ho _ rfl) (fun q => kt q p e s m args below meth c H locs ls C hW hF hl) (fun q => kf q p e s m args below meth c H locs ls C hW hF hl)
theorem k_icmp_ne {n x0 y0 : Nat} {o : Int} {x y : Int32} (hf : md_f M pc = some (.if_icmp .ne o, 3, n, x0, y0)) (kt : ¬ x = y → Ok g M R Z kc ks h x0 L st) (kf : x = y → Ok g M R Z kc ks h n L st) : Ok g M R Z kc ks h pc L (.int y :: .int x :: st) := by
  intro p e s m args below meth c H locs ls C hW hF hl
  obtain ⟨hd, hn, ho⟩ := md_dec C.2.2.2.2.2.2.2.2.2.2 hf
  subst hn
  exact lv_icmp_ne C.1 C.2.1 hd (ho _ rfl) (fun q => kt q p e s m args below meth c H locs ls C hW hF hl) (fun q => kf q p e s m args below meth c H locs ls C hW hF hl)
theorem k_if_ne {n x0 y0 : Nat} {o : Int} {x : Int32} (hf : md_f M pc = some (.ifCond .ne o, 3, n, x0, y0)) (kt : ¬ x = 0 → Ok g M R Z kc ks h x0 L st) (kf : x = 0 → Ok g M R Z kc ks h n L st) : Ok g M R Z kc ks h pc L (.int x :: st) := by
  intro p e s m args below meth c H locs ls C hW hF hl
  obtain ⟨hd, hn, ho⟩ := md_dec C.2.2.2.2.2.2.2.2.2.2 hf
  subst hn
  exact lv_if_ne C.1 C.2.1 hd (ho _ rfl) (fun q => kt q p e s m args below meth c H locs ls C hW hF hl) (fun q => kf q p e s m args below meth c H locs ls C hW hF hl)
theorem k_icmp_lt {n x0 y0 : Nat} {o : Int} {x y : Int32} (hf : md_f M pc = some (.if_icmp .lt o, 3, n, x0, y0)) (kt : x < y → Ok g M R Z kc ks h x0 L st) (kf : ¬ (x < y) → Ok g M R Z kc ks h n L st) : Ok g M R Z kc ks h pc L (.int y :: .int x :: st) := by
  intro p e s m args below meth c H locs ls C hW hF hl
  obtain ⟨hd, hn, ho⟩ := md_dec C.2.2.2.2.2.2.2.2.2.2 hf
  subst hn
  exact lv_icmp_lt C.1 C.2.1 hd (ho _ rfl) (fun q => kt q p e s m args below meth c H locs ls C hW hF hl) (fun q => kf q p e s m args below meth c H locs ls C hW hF hl)
theorem k_if_lt {n x0 y0 : Nat} {o : Int} {x : Int32} (hf : md_f M pc = some (.ifCond .lt o, 3, n, x0, y0)) (kt : x < 0 → Ok g M R Z kc ks h x0 L st) (kf : ¬ (x < 0) → Ok g M R Z kc ks h n L st) : Ok g M R Z kc ks h pc L (.int x :: st) := by
  intro p e s m args below meth c H locs ls C hW hF hl
  obtain ⟨hd, hn, ho⟩ := md_dec C.2.2.2.2.2.2.2.2.2.2 hf
  subst hn
  exact lv_if_lt C.1 C.2.1 hd (ho _ rfl) (fun q => kt q p e s m args below meth c H locs ls C hW hF hl) (fun q => kf q p e s m args below meth c H locs ls C hW hF hl)
theorem k_icmp_ge {n x0 y0 : Nat} {o : Int} {x y : Int32} (hf : md_f M pc = some (.if_icmp .ge o, 3, n, x0, y0)) (kt : y ≤ x → Ok g M R Z kc ks h x0 L st) (kf : ¬ (y ≤ x) → Ok g M R Z kc ks h n L st) : Ok g M R Z kc ks h pc L (.int y :: .int x :: st) := by
  intro p e s m args below meth c H locs ls C hW hF hl
  obtain ⟨hd, hn, ho⟩ := md_dec C.2.2.2.2.2.2.2.2.2.2 hf
  subst hn
  exact lv_icmp_ge C.1 C.2.1 hd (ho _ rfl) (fun q => kt q p e s m args below meth c H locs ls C hW hF hl) (fun q => kf q p e s m args below meth c H locs ls C hW hF hl)
theorem k_if_ge {n x0 y0 : Nat} {o : Int} {x : Int32} (hf : md_f M pc = some (.ifCond .ge o, 3, n, x0, y0)) (kt : 0 ≤ x → Ok g M R Z kc ks h x0 L st) (kf : ¬ (0 ≤ x) → Ok g M R Z kc ks h n L st) : Ok g M R Z kc ks h pc L (.int x :: st) := by
  intro p e s m args below meth c H locs ls C hW hF hl
  obtain ⟨hd, hn, ho⟩ := md_dec C.2.2.2.2.2.2.2.2.2.2 hf
  subst hn
  exact lv_if_ge C.1 C.2.1 hd (ho _ rfl) (fun q => kt q p e s m args below meth c H locs ls C hW hF hl) (fun q => kf q p e s m args below meth c H locs ls C hW hF hl)
theorem k_icmp_gt {n x0 y0 : Nat} {o : Int} {x y : Int32} (hf : md_f M pc = some (.if_icmp .gt o, 3, n, x0, y0)) (kt : y < x → Ok g M R Z kc ks h x0 L st) (kf : ¬ (y < x) → Ok g M R Z kc ks h n L st) : Ok g M R Z kc ks h pc L (.int y :: .int x :: st) := by
  intro p e s m args below meth c H locs ls C hW hF hl
  obtain ⟨hd, hn, ho⟩ := md_dec C.2.2.2.2.2.2.2.2.2.2 hf
  subst hn
  exact lv_icmp_gt C.1 C.2.1 hd (ho _ rfl) (fun q => kt q p e s m args below meth c H locs ls C hW hF hl) (fun q => kf q p e s m args below meth c H locs ls C hW hF hl)
theorem k_if_gt {n x0 y0 : Nat} {o : Int} {x : Int32} (hf : md_f M pc = some (.ifCond .gt o, 3, n, x0, y0)) (kt : 0 < x → Ok g M R Z kc ks h x0 L st) (kf : ¬ (0 < x) → Ok g M R Z kc ks h n L st) : Ok g M R Z kc ks h pc L (.int x :: st) := by
  intro p e s m args below meth c H locs ls C hW hF hl
  obtain ⟨hd, hn, ho⟩ := md_dec C.2.2.2.2.2.2.2.2.2.2 hf
  subst hn
  exact lv_if_gt C.1 C.2.1 hd (ho _ rfl) (fun q => kt q p e s m args below meth c H locs ls C hW hF hl) (fun q => kf q p e s m args below meth c H locs ls C hW hF hl)
theorem k_icmp_le {n x0 y0 : Nat} {o : Int} {x y : Int32} (hf : md_f M pc = some (.if_icmp .le o, 3, n, x0, y0)) (kt : x ≤ y → Ok g M R Z kc ks h x0 L st) (kf : ¬ (x ≤ y) → Ok g M R Z kc ks h n L st) : Ok g M R Z kc ks h pc L (.int y :: .int x :: st) := by
  intro p e s m args below meth c H locs ls C hW hF hl
  obtain ⟨hd, hn, ho⟩ := md_dec C.2.2.2.2.2.2.2.2.2.2 hf
  subst hn
  exact lv_icmp_le C.1 C.2.1 hd (ho _ rfl) (fun q => kt q p e s m args below meth c H locs ls C hW hF hl) (fun q => kf q p e s m args below meth c H locs ls C hW hF hl)
theorem k_if_le {n x0 y0 : Nat} {o : Int} {x : Int32} (hf : md_f M pc = some (.ifCond .le o, 3, n, x0, y0)) (kt : x ≤ 0 → Ok g M R Z kc ks h x0 L st) (kf : ¬ (x ≤ 0) → Ok g M R Z kc ks h n L st) : Ok g M R Z kc ks h pc L (.int x :: st) := by
  intro p e s m args below meth c H locs ls C hW hF hl
  obtain ⟨hd, hn, ho⟩ := md_dec C.2.2.2.2.2.2.2.2.2.2 hf
  subst hn
  exact lv_if_le C.1 C.2.1 hd (ho _ rfl) (fun q => kt q p e s m args below meth c H locs ls C hW hF hl) (fun q => kf q p e s m args below meth c H locs ls C hW hF hl)
theorem k_goto {n x0 y0 : Nat} {o : Int} (hf : md_f M pc = some (.goto o, 3, n, x0, y0)) (k : Ok g M R Z kc ks h x0 L st) : Ok g M R Z kc ks h pc L st := by
  intro p e s m args below meth c H locs ls C hW hF hl
  obtain ⟨hd, hn, ho⟩ := md_dec C.2.2.2.2.2.2.2.2.2.2 hf
  subst hn
  exact lv_goto C.1 C.2.1 hd (ho _ rfl) (k p e s m args below meth c H locs ls C hW hF hl)
end ROWS
