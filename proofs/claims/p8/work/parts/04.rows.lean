/-! fields, arrays, new cells, answers, calls -/
def isO (g : Gx) (h : Hp) (a c : Nat) : Prop := gx_B g ≤ a ∧ a < hp_n h ∧ hp_k h a = .inl c
def isA (g : Gx) (h : Hp) (a t len : Nat) : Prop := gx_B g ≤ a ∧ a < hp_n h ∧ hp_k h a = .inr t ∧ hp_l h a = len
theorem Wd_O {g : Gx} {h : Hp} {H : Heap} {a c : Nat} (x : Wd g h H) (o : isO g h a c) : ∃ r : vw_C, sg_cl[c]? = some r ∧ t_OB a (g.2.1 c) r.2.2 (g.2.2.1 c) H (fun k => hp_fv h (sg_ft c k) a k) := by
  have y := x.2.2.2 a o.1 o.2.1
  unfold hp_at at y
  rw [o.2.2] at y
  exact y
theorem Wd_A {g : Gx} {h : Hp} {H : Heap} {a t len : Nat} (x : Wd g h H) (o : isA g h a t len) : H[a]? = some (arrV (g.2.2.2.1 t) len (fun j => hp_fv h (sg_at t) a j)) := by
  have y := x.2.2.2 a o.1 o.2.1
  unfold hp_at at y
  rw [o.2.2.1, o.2.2.2] at y
  exact y
def sg_fin (ci k : Nat) : Bool := match sg_cl[ci]? with
  | some r => (r.2.1 k).2.2.2
  | none => false
def sg_T (ci k : Nat) : String × String × String × Bool := match sg_cl[ci]? with
  | some r => r.2.1 k
  | none => ("", "", "", false)
def sg_C (ci : Nat) : String := match sg_cl[ci]? with
  | some r => r.1
  | none => ""
def sg_N (ci : Nat) : Nat := match sg_cl[ci]? with
  | some r => r.2.2
  | none => 0
section ROWS2
variable {g : Gx} {M : Md} {R : Room} {Z : Zx} {kc ks : Nat} {h : Hp} {pc : Nat} {L : List (Option Value)} {st : List Value}
theorem k_get {n idx ci k a : Nat} (hf : md_f M pc = some (.getfield idx, 3, n, ci, k)) (ho : isO g h a ci) (kk : Ok g M R Z kc ks h n L (hp_fv h (sg_ft ci k) a k :: st)) : Ok g M R Z kc ks h pc L (.ref a :: st) := by
  intro p e s m args below meth c H locs ls C hW hF hl
  obtain ⟨hd, hn, -⟩ := md_dec C.2.2.2.2.2.2.2.2.2.2 hf
  subst hn
  obtain ⟨r, hr, cell, q1, q2, q3, q4⟩ := Wd_O hW ho
  obtain ⟨hin, hty, hnm⟩ := sg_cl_ok ci r hr
  obtain ⟨hS, hfc, kC, hkC, hkind⟩ := C.2.2.2.2.2.2.2.1.1.1 ci r hr
  obtain ⟨r', hr', hkN, hlk⟩ := md_get C.2.2.2.2.2.2.2.2.2.2 hf
  cases (Option.some.inj (hr.symm.trans hr'))
  obtain ⟨cf, kf, fi, f, hi, hsl⟩ := hS k hkN
  have hst := (u_facts hfc hkC (u_lays C.2.2.2.2.2.1 hin hkN) hi).1
  have hv : cell.slots[f.slot]? = some (hp_fv h (sg_ft ci k) a k) := by rw [hsl]; exact q4 k hkN
  rcases hlk with hlk | hlk
  · exact W.getf C.1 C.2.1 C.2.2.2.2.1 (C.2.2.2.2.2.1 _ hlk) hi hst q1 (by rw [q3]; exact fun z => by cases z) hv rfl rfl hd (kk p e s m args below meth c H locs ls C hW hF hl)
  · exact va_Wgetf C.1 C.2.1 C.2.2.2.2.1 (va_Nw.use rfl (C.2.2.2.2.2.2.2.1.2.1 _ hlk)) hi hst q1 (by rw [q3]; exact fun z => by cases z) hv rfl rfl hd (kk p e s m args below meth c H locs ls C hW hF hl)
theorem k_getI {n idx ci k a : Nat} (hf : md_f M pc = some (.getfield idx, 3, n, ci, k)) (ht : ty_I (sg_ft ci k) = true) (ho : isO g h a ci) (kk : Ok g M R Z kc ks h n L (.int (hp_i h a k) :: st)) : Ok g M R Z kc ks h pc L (.ref a :: st) :=
  k_get hf ho (by rw [hp_fv_I ht]; exact kk)
theorem k_getL {n idx ci k a : Nat} (hf : md_f M pc = some (.getfield idx, 3, n, ci, k)) (ht : sg_ft ci k = .long) (ho : isO g h a ci) (kk : Ok g M R Z kc ks h n L (.long (hp_j h a k) :: st)) : Ok g M R Z kc ks h pc L (.ref a :: st) :=
  k_get hf ho (by rw [ht]; exact kk)
theorem k_getR {n idx ci k a q : Nat} (hf : md_f M pc = some (.getfield idx, 3, n, ci, k)) (ht : ty_R (sg_ft ci k) = true) (ho : isO g h a ci) (hq : hp_r h a k = some q) (kk : Ok g M R Z kc ks h n L (.ref q :: st)) : Ok g M R Z kc ks h pc L (.ref a :: st) :=
  k_get hf ho (by rw [hp_fv_R ht, hq]; exact kk)
set_option maxHeartbeats 1000000 in
theorem k_put {n idx ci k a : Nat} {v : Value} {h1 : Hp} (hf : md_f M pc = some (.putfield idx, 3, n, ci, k)) (hfin : sg_fin ci k = false) (ho : isO g h a ci) (hna : narrow (sg_ft ci k) v = v) (hfit : fits (sg_ft ci k) v = true)
    (en : hp_n h1 = hp_n h) (ek : hp_k h1 = hp_k h) (el : hp_l h1 = hp_l h) (eo : ∀ q, q ≠ a → ∀ ty j, hp_fv h1 ty q j = hp_fv h ty q j) (ea : ∀ j, updV (fun k => hp_fv h (sg_ft ci k) a k) k v j = hp_fv h1 (sg_ft ci j) a j)
    (kk : Ok g M R Z kc ks h1 n L st) : Ok g M R Z kc ks h pc L (v :: .ref a :: st) := by
  intro p e s m args below meth c H locs ls C hW hF hl
  obtain ⟨hd, hn, -⟩ := md_dec C.2.2.2.2.2.2.2.2.2.2 hf
  subst hn
  obtain ⟨r, hr, cell, q1, q2, q3, q4⟩ := Wd_O hW ho
  obtain ⟨hin, hty, hnm⟩ := sg_cl_ok ci r hr
  have hap := va_apart (own := r.1) C.2.2.2.2.2.1 hin (sg_ft ci) hty hnm C.2.2.2.2.2.2.2.1.1 hr
  obtain ⟨hS, hfc, kC, hkC, hkind⟩ := C.2.2.2.2.2.2.2.1.1.1 ci r hr
  unfold sg_fin at hfin
  rw [hr] at hfin
  simp only at hfin
  obtain ⟨r', hr', hkN, hlk⟩ := md_put C.2.2.2.2.2.2.2.2.2.2 hf
  cases (Option.some.inj (hr.symm.trans hr'))
  obtain ⟨cf, kf, fi, f, hi, hsl⟩ := hS k hkN
  have hst := (u_facts hfc hkC (u_lays C.2.2.2.2.2.1 hin hkN) hi).1
  have hlay := C.2.2.2.2.2.1 _ (hin _ (u_in_lay hkN))
  unfold u_lay at hlay
  rw [if_neg (by rw [hfin]; decide)] at hlay
  have h6 := u_store hfc hkC hkind hlay hi (hty k hkN) hna hfit
  have fin : ∀ H1 : Heap, H1[a]? = some (cell.setSlot f.slot v) → H1.size = H.size → (∀ q, q ≠ a → H1[q]? = H[q]?) → W p (gx_l g) e R s m args below meth c H1 (locs ++ [⟨a, f.slot⟩]) kc ks (Z below args s) (F0 m (pc + 3) ls st) := by
    intro H1 e1 e2 e3
    rw [hsl] at e1
    refine kk p e s m args below meth c H1 _ ls C (Wd_set hW ho.1 e2 en e3 ?_ ek el eo) (fun q hq => ?_) hl
    · unfold hp_at
      rw [ek, ho.2.2]
      exact ⟨r, hr, t_OB.to (V := updV (fun k => hp_fv h (sg_ft ci k) a k) k v) ⟨_, e1, q2, q3, t_set q4 hap hkN v⟩ (fun j _ => ea j)⟩
    · rcases List.mem_append.mp hq with z | z
      · exact hF q z
      · rw [List.mem_singleton.mp z]; exact ho.1
  rcases hlk with hlk | hlk
  · exact W.putK C.1 C.2.1 (f := f) ⟨C.2.2.2.2.1, C.2.2.2.2.2.1 _ hlk, ⟨_, _, _, hi⟩, hst⟩ (by rw [q2]; exact h6) q1 q3 (by rw [hsl]; exact k2_hasslot (q4 k hkN)) rfl rfl hd fin
  · exact va_WputK C.1 C.2.1 (f := f) C.2.2.2.2.1 (va_Nw.use rfl (C.2.2.2.2.2.2.2.1.2.1 _ hlk)) hi hst (by rw [q2]; exact h6) q1 q3 (by rw [hsl]; exact k2_hasslot (q4 k hkN)) rfl rfl hd fin
set_option maxHeartbeats 1000000 in
theorem k_putF {n idx ci k a : Nat} {v : Value} {h1 : Hp} (hf : md_f M pc = some (.putfield idx, 3, n, ci, k)) (hlk : Cond.fieldLink (md_y M).cls idx (sg_T ci k).1 (sg_T ci k).2.1 (sg_T ci k).2.2.1 ∈ sg_tbl) (hfin : sg_fin ci k = true) (hini : (md_y M).name = "<init>") (hdecl : (sg_T ci k).1 = (md_y M).cls) (ho : isO g h a ci) (hna : narrow (sg_ft ci k) v = v) (hfit : fits (sg_ft ci k) v = true)
    (en : hp_n h1 = hp_n h) (ek : hp_k h1 = hp_k h) (el : hp_l h1 = hp_l h) (eo : ∀ q, q ≠ a → ∀ ty j, hp_fv h1 ty q j = hp_fv h ty q j) (ea : ∀ j, updV (fun k => hp_fv h (sg_ft ci k) a k) k v j = hp_fv h1 (sg_ft ci j) a j)
    (kk : Ok g M R Z kc ks h1 n L st) : Ok g M R Z kc ks h pc L (v :: .ref a :: st) := by
  intro p e s m args below meth c H locs ls C hW hF hl
  obtain ⟨hd, hn, -⟩ := md_dec C.2.2.2.2.2.2.2.2.2.2 hf
  subst hn
  obtain ⟨r, hr, cell, q1, q2, q3, q4⟩ := Wd_O hW ho
  obtain ⟨hin, hty, hnm⟩ := sg_cl_ok ci r hr
  have hap := va_apart (own := r.1) C.2.2.2.2.2.1 hin (sg_ft ci) hty hnm C.2.2.2.2.2.2.2.1.1 hr
  obtain ⟨hS, hfc, kC, hkC, hkind⟩ := C.2.2.2.2.2.2.2.1.1.1 ci r hr
  unfold sg_fin at hfin
  unfold sg_T at hlk hdecl
  rw [hr] at hfin hlk hdecl
  simp only at hfin hlk hdecl
  obtain ⟨r', hr', hkN, -⟩ := md_put C.2.2.2.2.2.2.2.2.2.2 hf
  cases (Option.some.inj (hr.symm.trans hr'))
  obtain ⟨cf, kf, fi, f, hi, hsl⟩ := hS k hkN
  have hst := (u_facts hfc hkC (u_lays C.2.2.2.2.2.1 hin hkN) hi).1
  have hlay := C.2.2.2.2.2.1 _ (hin _ (u_in_lay hkN))
  unfold u_lay at hlay
  rw [if_pos hfin] at hlay
  have hcf : m.cls = cf := by
    obtain ⟨_, _, c', _, _, _, -, -, hf', -, -, -, hown2, -⟩ := Cond.laysFinal_spec hlay
    have e1 : c' = cf := by have := hi.symm.trans hf'; simp at this; exact this.1.symm
    rw [hdecl] at hown2
    rw [← e1]; exact Option.some.inj (C.2.2.2.2.1.symm.trans hown2)
  have h6 := u_fits hfc hkC hkind (Or.inr hlay) hi (hty k hkN) hna hfit
  have fin : ∀ H1 : Heap, H1[a]? = some (cell.setSlot f.slot v) → H1.size = H.size → (∀ q, q ≠ a → H1[q]? = H[q]?) → W p (gx_l g) e R s m args below meth c H1 (locs ++ [⟨a, f.slot⟩]) kc ks (Z below args s) (F0 m (pc + 3) ls st) := by
    intro H1 e1 e2 e3
    rw [hsl] at e1
    refine kk p e s m args below meth c H1 _ ls C (Wd_set hW ho.1 e2 en e3 ?_ ek el eo) (fun q hq => ?_) hl
    · unfold hp_at
      rw [ek, ho.2.2]
      exact ⟨r, hr, t_OB.to (V := updV (fun k => hp_fv h (sg_ft ci k) a k) k v) ⟨_, e1, q2, q3, t_set q4 hap hkN v⟩ (fun j _ => ea j)⟩
    · rcases List.mem_append.mp hq with z | z
      · exact hF q z
      · rw [List.mem_singleton.mp z]; exact ho.1
  exact W.putFinK C.1 C.2.1 C.2.2.2.2.1 (C.2.2.2.2.2.1 _ hlk) hi hst hcf (C.2.2.2.2.2.2.2.2.1.trans hini) (by rw [q2]; exact h6) q1 q3 (by rw [hsl]; exact k2_hasslot (q4 k hkN)) rfl rfl hd fin
theorem ea_I {ci k a : Nat} {x : Int32} (ht : sg_ft ci k = .int) : ∀ j, updV (fun k => hp_fv h (sg_ft ci k) a k) k (.int x) j = hp_fv (hp_ui h a k x) (sg_ft ci j) a j := by
  intro j
  by_cases e : j = k
  · subst e
    simp only [updV, if_true]
    exact (by rw [ht]; show _ = Value.int (up2 _ a j _ a j); rw [up2_s])
  · simp only [updV, if_neg e]
    exact (hp_fv_ui (Or.inr e)).symm
theorem k_putI {n idx ci k a : Nat} {x : Int32} (hf : md_f M pc = some (.putfield idx, 3, n, ci, k)) (ht : sg_ft ci k = .int) (hfin : sg_fin ci k = false) (ho : isO g h a ci) (kk : Ok g M R Z kc ks (hp_ui h a k x) n L st) : Ok g M R Z kc ks h pc L (.int x :: .ref a :: st) :=
  k_put (h1 := hp_ui h a k x) hf hfin ho (by rw [ht]; rfl) (by rw [ht]; rfl) rfl rfl rfl (fun q hq ty j => hp_fv_ui (Or.inl hq)) (ea_I ht) kk
theorem k_putFI {n idx ci k a : Nat} {x : Int32} (hf : md_f M pc = some (.putfield idx, 3, n, ci, k)) (ht : sg_ft ci k = .int) (hlk : Cond.fieldLink (md_y M).cls idx (sg_T ci k).1 (sg_T ci k).2.1 (sg_T ci k).2.2.1 ∈ sg_tbl) (hfin : sg_fin ci k = true) (hini : (md_y M).name = "<init>") (hdecl : (sg_T ci k).1 = (md_y M).cls) (ho : isO g h a ci) (kk : Ok g M R Z kc ks (hp_ui h a k x) n L st) : Ok g M R Z kc ks h pc L (.int x :: .ref a :: st) :=
  k_putF (h1 := hp_ui h a k x) hf hlk hfin hini hdecl ho (by rw [ht]; rfl) (by rw [ht]; rfl) rfl rfl rfl (fun q hq ty j => hp_fv_ui (Or.inl hq)) (ea_I ht) kk
theorem ea_L {ci k a : Nat} {x : Int64} (ht : sg_ft ci k = .long) : ∀ j, updV (fun k => hp_fv h (sg_ft ci k) a k) k (.long x) j = hp_fv (hp_uj h a k x) (sg_ft ci j) a j := by
  intro j
  by_cases e : j = k
  · subst e
    simp only [updV, if_true]
    exact (by rw [ht]; show _ = Value.long (up2 _ a j _ a j); rw [up2_s])
  · simp only [updV, if_neg e]
    exact (hp_fv_uj (Or.inr e)).symm
theorem k_putL {n idx ci k a : Nat} {x : Int64} (hf : md_f M pc = some (.putfield idx, 3, n, ci, k)) (ht : sg_ft ci k = .long) (hfin : sg_fin ci k = false) (ho : isO g h a ci) (kk : Ok g M R Z kc ks (hp_uj h a k x) n L st) : Ok g M R Z kc ks h pc L (.long x :: .ref a :: st) :=
  k_put (h1 := hp_uj h a k x) hf hfin ho (by rw [ht]; rfl) (by rw [ht]; rfl) rfl rfl rfl (fun q hq ty j => hp_fv_uj (Or.inl hq)) (ea_L ht) kk
theorem k_putFL {n idx ci k a : Nat} {x : Int64} (hf : md_f M pc = some (.putfield idx, 3, n, ci, k)) (ht : sg_ft ci k = .long) (hlk : Cond.fieldLink (md_y M).cls idx (sg_T ci k).1 (sg_T ci k).2.1 (sg_T ci k).2.2.1 ∈ sg_tbl) (hfin : sg_fin ci k = true) (hini : (md_y M).name = "<init>") (hdecl : (sg_T ci k).1 = (md_y M).cls) (ho : isO g h a ci) (kk : Ok g M R Z kc ks (hp_uj h a k x) n L st) : Ok g M R Z kc ks h pc L (.long x :: .ref a :: st) :=
  k_putF (h1 := hp_uj h a k x) hf hlk hfin hini hdecl ho (by rw [ht]; rfl) (by rw [ht]; rfl) rfl rfl rfl (fun q hq ty j => hp_fv_uj (Or.inl hq)) (ea_L ht) kk
theorem ea_R {ci k a : Nat} {x : Nat} (ht : ty_R (sg_ft ci k) = true) : ∀ j, updV (fun k => hp_fv h (sg_ft ci k) a k) k (.ref x) j = hp_fv (hp_ur h a k (some x)) (sg_ft ci j) a j := by
  intro j
  by_cases e : j = k
  · subst e
    simp only [updV, if_true]
    exact (by rw [hp_fv_R ht]; show _ = va_rf (up2 _ a j _ a j); rw [up2_s]; rfl)
  · simp only [updV, if_neg e]
    exact (hp_fv_ur (Or.inr e)).symm
theorem k_putR {n idx ci k a : Nat} {x : Nat} (hf : md_f M pc = some (.putfield idx, 3, n, ci, k)) (ht : ty_R (sg_ft ci k) = true) (hfin : sg_fin ci k = false) (ho : isO g h a ci) (kk : Ok g M R Z kc ks (hp_ur h a k (some x)) n L st) : Ok g M R Z kc ks h pc L (.ref x :: .ref a :: st) :=
  k_put (h1 := hp_ur h a k (some x)) hf hfin ho (by cases hq : sg_ft ci k <;> rw [hq] at ht <;> first | rfl | cases ht) (by cases hq : sg_ft ci k <;> rw [hq] at ht <;> first | rfl | cases ht) rfl rfl rfl (fun q hq ty j => hp_fv_ur (Or.inl hq)) (ea_R ht) kk
theorem k_putFR {n idx ci k a : Nat} {x : Nat} (hf : md_f M pc = some (.putfield idx, 3, n, ci, k)) (ht : ty_R (sg_ft ci k) = true) (hlk : Cond.fieldLink (md_y M).cls idx (sg_T ci k).1 (sg_T ci k).2.1 (sg_T ci k).2.2.1 ∈ sg_tbl) (hfin : sg_fin ci k = true) (hini : (md_y M).name = "<init>") (hdecl : (sg_T ci k).1 = (md_y M).cls) (ho : isO g h a ci) (kk : Ok g M R Z kc ks (hp_ur h a k (some x)) n L st) : Ok g M R Z kc ks h pc L (.ref x :: .ref a :: st) :=
  k_putF (h1 := hp_ur h a k (some x)) hf hlk hfin hini hdecl ho (by cases hq : sg_ft ci k <;> rw [hq] at ht <;> first | rfl | cases ht) (by cases hq : sg_ft ci k <;> rw [hq] at ht <;> first | rfl | cases ht) rfl rfl rfl (fun q hq ty j => hp_fv_ur (Or.inl hq)) (ea_R ht) kk
theorem ix_in {i : Int32} {j len : Nat} (e : i = nI j) (hj : j < len) (hl : len < 2147483648) : ¬ (i < 0 ∨ len ≤ i.toNatClampNeg) := by
  subst e; exact nI_in hj hl
theorem ix_cl {i : Int32} {j len : Nat} (e : i = nI j) (hj : j < len) (hl : len < 2147483648) : i.toNatClampNeg = j := by
  subst e; exact nI_clamp (Nat.lt_trans hj hl)
theorem k_iald {n x0 y0 t a len j : Nat} {i : Int32} (hf : md_f M pc = some (.iaload, 1, n, x0, y0)) (ho : isA g h a t len) (ht : sg_at t = .int) (hta : t < sg_na) (hi : i = nI j) (hj : j < len) (hlen : len < 2147483648) (kk : Ok g M R Z kc ks h n L (.int (hp_i h a j) :: st)) : Ok g M R Z kc ks h pc L (.int i :: .ref a :: st) := by
  intro p e s m args below meth c H locs ls C hW hF hl
  obtain ⟨hd, hn, -⟩ := md_dec C.2.2.2.2.2.2.2.2.2.2 hf
  subst hn
  have hA := Wd_A hW ho
  have hty := (C.2.2.2.2.2.2.2.1.1.2 t _ (tb_get hta)).1 len (fun j => hp_fv h (sg_at t) a j)
  have hc := ix_cl hi hj hlen
  refine W.iald (v := .int (hp_i h a j)) C.1 C.2.1 hA (by rw [ht] at hty ⊢; exact hty) (fun q => by cases q) (by show ¬ (i < 0 ∨ (arrV _ _ _).slots.size ≤ _); rw [arrV_size]; exact ix_in hi hj hlen) (by rw [hc, arrV_read _ _ hj, ht]; rfl) rfl rfl hd (kk p e s m args below meth c H locs ls C hW hF hl)
theorem k_zald {n x0 y0 t a len j : Nat} {i : Int32} (hf : md_f M pc = some (.baload, 1, n, x0, y0)) (ho : isA g h a t len) (ht : sg_at t = .boolean) (hta : t < sg_na) (hi : i = nI j) (hj : j < len) (hlen : len < 2147483648) (kk : Ok g M R Z kc ks h n L (.int (hp_i h a j) :: st)) : Ok g M R Z kc ks h pc L (.int i :: .ref a :: st) := by
  intro p e s m args below meth c H locs ls C hW hF hl
  obtain ⟨hd, hn, -⟩ := md_dec C.2.2.2.2.2.2.2.2.2.2 hf
  subst hn
  have hA := Wd_A hW ho
  have hty := (C.2.2.2.2.2.2.2.1.1.2 t _ (tb_get hta)).1 len (fun j => hp_fv h (sg_at t) a j)
  have hc := ix_cl hi hj hlen
  refine W.zald (v := .int (hp_i h a j)) C.1 C.2.1 hA (by rw [ht] at hty ⊢; exact hty) (fun q => by cases q) (by show ¬ (i < 0 ∨ (arrV _ _ _).slots.size ≤ _); rw [arrV_size]; exact ix_in hi hj hlen) (by rw [hc, arrV_read _ _ hj, ht]; rfl) rfl rfl hd (kk p e s m args below meth c H locs ls C hW hF hl)
theorem k_bald {n x0 y0 t a len j : Nat} {i : Int32} (hf : md_f M pc = some (.baload, 1, n, x0, y0)) (ho : isA g h a t len) (ht : sg_at t = .byte) (hta : t < sg_na) (hi : i = nI j) (hj : j < len) (hlen : len < 2147483648) (kk : Ok g M R Z kc ks h n L (.int (hp_i h a j) :: st)) : Ok g M R Z kc ks h pc L (.int i :: .ref a :: st) := by
  intro p e s m args below meth c H locs ls C hW hF hl
  obtain ⟨hd, hn, -⟩ := md_dec C.2.2.2.2.2.2.2.2.2.2 hf
  subst hn
  have hA := Wd_A hW ho
  have hty := (C.2.2.2.2.2.2.2.1.1.2 t _ (tb_get hta)).1 len (fun j => hp_fv h (sg_at t) a j)
  have hc := ix_cl hi hj hlen
  refine W.bald (v := .int (hp_i h a j)) C.1 C.2.1 hA (by rw [ht] at hty ⊢; exact hty) (fun q => by cases q) (by show ¬ (i < 0 ∨ (arrV _ _ _).slots.size ≤ _); rw [arrV_size]; exact ix_in hi hj hlen) (by rw [hc, arrV_read _ _ hj, ht]; rfl) rfl rfl hd (kk p e s m args below meth c H locs ls C hW hF hl)
theorem k_lald {n x0 y0 t a len j : Nat} {i : Int32} (hf : md_f M pc = some (.laload, 1, n, x0, y0)) (ho : isA g h a t len) (ht : sg_at t = .long) (hta : t < sg_na) (hi : i = nI j) (hj : j < len) (hlen : len < 2147483648) (kk : Ok g M R Z kc ks h n L (.long (hp_j h a j) :: st)) : Ok g M R Z kc ks h pc L (.int i :: .ref a :: st) := by
  intro p e s m args below meth c H locs ls C hW hF hl
  obtain ⟨hd, hn, -⟩ := md_dec C.2.2.2.2.2.2.2.2.2.2 hf
  subst hn
  have hA := Wd_A hW ho
  have hty := (C.2.2.2.2.2.2.2.1.1.2 t _ (tb_get hta)).1 len (fun j => hp_fv h (sg_at t) a j)
  have hc := ix_cl hi hj hlen
  refine W.lald (v := .long (hp_j h a j)) C.1 C.2.1 hA (by rw [ht] at hty ⊢; exact hty) (fun q => by cases q) (by show ¬ (i < 0 ∨ (arrV _ _ _).slots.size ≤ _); rw [arrV_size]; exact ix_in hi hj hlen) (by rw [hc, arrV_read _ _ hj, ht]; rfl) rfl rfl hd (kk p e s m args below meth c H locs ls C hW hF hl)
theorem k_aald {n x0 y0 t a len j q : Nat} {i : Int32} (hf : md_f M pc = some (.aaload, 1, n, x0, y0)) (ho : isA g h a t len) (ht : ty_R (sg_at t) = true) (hta : t < sg_na) (hi : i = nI j) (hj : j < len) (hlen : len < 2147483648) (hq : hp_r h a j = some q) (kk : Ok g M R Z kc ks h n L (.ref q :: st)) : Ok g M R Z kc ks h pc L (.int i :: .ref a :: st) := by
  intro p e s m args below meth c H locs ls C hW hF hl
  obtain ⟨hd, hn, -⟩ := md_dec C.2.2.2.2.2.2.2.2.2.2 hf
  subst hn
  have hA := Wd_A hW ho
  have hty := (C.2.2.2.2.2.2.2.1.1.2 t _ (tb_get hta)).1 len (fun j => hp_fv h (sg_at t) a j)
  have hc := ix_cl hi hj hlen
  refine W.aald (v := .ref q) C.1 C.2.1 hA hty (by cases hz : sg_at t <;> rw [hz] at ht <;> first | rfl | cases ht) (fun q => by cases q) (by show ¬ (i < 0 ∨ (arrV _ _ _).slots.size ≤ _); rw [arrV_size]; exact ix_in hi hj hlen) (by rw [hc, arrV_read _ _ hj, hp_fv_R ht, hq]; rfl) rfl rfl hd (kk p e s m args below meth c H locs ls C hW hF hl)
theorem k_alen {n x0 y0 t a len : Nat} (hf : md_f M pc = some (.arraylength, 1, n, x0, y0)) (ho : isA g h a t len) (hta : t < sg_na) (kk : Ok g M R Z kc ks h n L (.int (nI len) :: st)) : Ok g M R Z kc ks h pc L (.ref a :: st) := by
  intro p e s m args below meth c H locs ls C hW hF hl
  obtain ⟨hd, hn, -⟩ := md_dec C.2.2.2.2.2.2.2.2.2.2 hf
  subst hn
  have hA := Wd_A hW ho
  have hty := (C.2.2.2.2.2.2.2.1.1.2 t _ (tb_get hta)).1 len (fun j => hp_fv h (sg_at t) a j)
  exact W.alen (n := Int32.ofNat len) C.1 C.2.1 hA hty (by rw [arrV_size] <;> rfl) rfl rfl hd (kk p e s m args below meth c H locs ls C hW hF hl)
/-- what an array's place holds behind a store -/
theorem Wd_ast {H H1 : Heap} {t a len j : Nat} {v : Value} {h1 : Hp} (hW : Wd g h H) (ho : isA g h a t len) (e1 : H1[a]? = some ((arrV (g.2.2.2.1 t) len (fun j => hp_fv h (sg_at t) a j)).setSlot j v)) (e2 : H1.size = H.size) (e3 : ∀ q, q ≠ a → H1[q]? = H[q]?)
    (en : hp_n h1 = hp_n h) (ek : hp_k h1 = hp_k h) (el : hp_l h1 = hp_l h) (eo : ∀ q, q ≠ a → ∀ ty j, hp_fv h1 ty q j = hp_fv h ty q j) (ea : ∀ i, updV (fun k => hp_fv h (sg_at t) a k) j v i = hp_fv h1 (sg_at t) a i) : Wd g h1 H1 := by
  refine Wd_set hW ho.1 e2 en e3 ?_ ek el eo
  unfold hp_at
  rw [ek, el, ho.2.2.1, ho.2.2.2]
  show H1[a]? = _
  rw [e1, arrV_store]
  congr 2
  funext i
  exact ea i
theorem k_iast {n x0 y0 t a len j : Nat} {i : Int32} {x : Int32} (hf : md_f M pc = some (.iastore, 1, n, x0, y0)) (ho : isA g h a t len) (ht : sg_at t = .int) (hta : t < sg_na) (hi : i = nI j) (hj : j < len) (hlen : len < 2147483648)  (kk : Ok g M R Z kc ks (hp_ui h a j x) n L st) : Ok g M R Z kc ks h pc L (.int x :: .int i :: .ref a :: st) := by
  intro p e s m args below meth c H locs ls C hW hF hl
  obtain ⟨hd, hn, -⟩ := md_dec C.2.2.2.2.2.2.2.2.2.2 hf
  subst hn
  have hA := Wd_A hW ho
  have hty := (C.2.2.2.2.2.2.2.1.1.2 t _ (tb_get hta)).1 len (fun j => hp_fv h (sg_at t) a j)
  have hc := ix_cl hi hj hlen
  refine W.iast C.1 C.2.1 hA (by rw [ht] at hty ⊢; exact hty) (fun q => by cases q) (by show ¬ (i < 0 ∨ (arrV _ _ _).slots.size ≤ _); rw [arrV_size]; exact ix_in hi hj hlen) rfl rfl hd (fun H1 e1 e2 e3 => ?_)
  rw [hc] at e1 ⊢
  skip
  refine kk p e s m args below meth c H1 _ ls C (Wd_ast hW ho e1 e2 e3 rfl rfl rfl (fun q hq ty j => hp_fv_ui (Or.inl hq)) (fun b => ?_)) (fun q hq => ?_) hl
  · by_cases e : b = j
    · subst e
      simp only [updV, if_true]
      rw [ht]
      show _ = Value.int (up2 _ a b _ a b)
      rw [up2_s]
    · simp only [updV, if_neg e]
      exact (hp_fv_ui (Or.inr e)).symm
  · rcases List.mem_append.mp hq with z | z
    · exact hF q z
    · rw [List.mem_singleton.mp z]; exact ho.1
theorem k_zast {n x0 y0 t a len j : Nat} {i : Int32} {x : Int32} (hf : md_f M pc = some (.bastore, 1, n, x0, y0)) (ho : isA g h a t len) (ht : sg_at t = .boolean) (hta : t < sg_na) (hi : i = nI j) (hj : j < len) (hlen : len < 2147483648) (hx : narrow .boolean (.int x) = .int x) (kk : Ok g M R Z kc ks (hp_ui h a j x) n L st) : Ok g M R Z kc ks h pc L (.int x :: .int i :: .ref a :: st) := by
  intro p e s m args below meth c H locs ls C hW hF hl
  obtain ⟨hd, hn, -⟩ := md_dec C.2.2.2.2.2.2.2.2.2.2 hf
  subst hn
  have hA := Wd_A hW ho
  have hty := (C.2.2.2.2.2.2.2.1.1.2 t _ (tb_get hta)).1 len (fun j => hp_fv h (sg_at t) a j)
  have hc := ix_cl hi hj hlen
  refine W.zast C.1 C.2.1 hA (by rw [ht] at hty ⊢; exact hty) (fun q => by cases q) (by show ¬ (i < 0 ∨ (arrV _ _ _).slots.size ≤ _); rw [arrV_size]; exact ix_in hi hj hlen) rfl rfl hd (fun H1 e1 e2 e3 => ?_)
  rw [hc] at e1 ⊢
  rw [hx] at e1
  refine kk p e s m args below meth c H1 _ ls C (Wd_ast hW ho e1 e2 e3 rfl rfl rfl (fun q hq ty j => hp_fv_ui (Or.inl hq)) (fun b => ?_)) (fun q hq => ?_) hl
  · by_cases e : b = j
    · subst e
      simp only [updV, if_true]
      rw [ht]
      show _ = Value.int (up2 _ a b _ a b)
      rw [up2_s]
    · simp only [updV, if_neg e]
      exact (hp_fv_ui (Or.inr e)).symm
  · rcases List.mem_append.mp hq with z | z
    · exact hF q z
    · rw [List.mem_singleton.mp z]; exact ho.1
theorem k_last {n x0 y0 t a len j : Nat} {i : Int32} {x : Int64} (hf : md_f M pc = some (.lastore, 1, n, x0, y0)) (ho : isA g h a t len) (ht : sg_at t = .long) (hta : t < sg_na) (hi : i = nI j) (hj : j < len) (hlen : len < 2147483648)  (kk : Ok g M R Z kc ks (hp_uj h a j x) n L st) : Ok g M R Z kc ks h pc L (.long x :: .int i :: .ref a :: st) := by
  intro p e s m args below meth c H locs ls C hW hF hl
  obtain ⟨hd, hn, -⟩ := md_dec C.2.2.2.2.2.2.2.2.2.2 hf
  subst hn
  have hA := Wd_A hW ho
  have hty := (C.2.2.2.2.2.2.2.1.1.2 t _ (tb_get hta)).1 len (fun j => hp_fv h (sg_at t) a j)
  have hc := ix_cl hi hj hlen
  refine W.last C.1 C.2.1 hA (by rw [ht] at hty ⊢; exact hty) (fun q => by cases q) (by show ¬ (i < 0 ∨ (arrV _ _ _).slots.size ≤ _); rw [arrV_size]; exact ix_in hi hj hlen) rfl rfl hd (fun H1 e1 e2 e3 => ?_)
  rw [hc] at e1 ⊢
  skip
  refine kk p e s m args below meth c H1 _ ls C (Wd_ast hW ho e1 e2 e3 rfl rfl rfl (fun q hq ty j => hp_fv_uj (Or.inl hq)) (fun b => ?_)) (fun q hq => ?_) hl
  · by_cases e : b = j
    · subst e
      simp only [updV, if_true]
      rw [ht]
      show _ = Value.long (up2 _ a b _ a b)
      rw [up2_s]
    · simp only [updV, if_neg e]
      exact (hp_fv_uj (Or.inr e)).symm
  · rcases List.mem_append.mp hq with z | z
    · exact hF q z
    · rw [List.mem_singleton.mp z]; exact ho.1
/-- a class's object into an array over that class -/
def at_ok (t ci : Nat) : Bool := match sg_cl[ci]?, sg_at t with
  | some r, .object C => decide (r.1 = C)
  | _, _ => false
theorem k_aast {n x0 y0 t a len j v ci : Nat} {i : Int32} (hf : md_f M pc = some (.aastore, 1, n, x0, y0)) (ho : isA g h a t len) (hv : isO g h v ci) (ht : at_ok t ci = true) (hta : t < sg_na) (hi : i = nI j) (hj : j < len) (hlen : len < 2147483648) (kk : Ok g M R Z kc ks (hp_ur h a j (some v)) n L st) : Ok g M R Z kc ks h pc L (.ref v :: .int i :: .ref a :: st) := by
  intro p e s m args below meth c H locs ls C hW hF hl
  obtain ⟨hd, hn, -⟩ := md_dec C.2.2.2.2.2.2.2.2.2.2 hf
  subst hn
  have hA := Wd_A hW ho
  obtain ⟨r, hr, cellV, g1, g2, g3, -⟩ := Wd_O hW hv
  have hK := C.2.2.2.2.2.2.2.1.1
  have hc := ix_cl hi hj hlen
  unfold at_ok at ht
  rw [hr] at ht
  cases hat : sg_at t with
  | object E =>
    rw [hat] at ht
    have hE : r.1 = E := of_decide_eq_true ht
    subst hE
    have hcls := (hK.1 ci r hr).2
    have hta2 := (hK.2 t _ (tb_get hta)).2
    simp only [hat] at hta2
    obtain ⟨kA, comp, k1, k2, k3, -⟩ := hta2
    have hcomp : comp = g.2.1 ci := Option.some.inj (k3.symm.trans hcls.1)
    subst hcomp
    obtain ⟨kC, hkC, -⟩ := hcls.2
    refine W.aast C.1 C.2.1 hA (fun q h => by cases h) (fun h => by cases h) k1 k2 rfl hkC ⟨by rw [hi]; exact nI_pos (Nat.lt_trans hj hlen), by show _ < (arrV _ _ _).slots.size; rw [arrV_size, hc]; exact hj⟩ g1 (fun q h => by rw [g3] at h; cases h) (by rw [g2]; exact hkC) (by rw [g2]; exact va_assign hcls) rfl rfl hd (fun H1 e1 e2 e3 => ?_)
    rw [hc] at e1 ⊢
    refine kk p e s m args below meth c H1 _ ls C (Wd_ast hW ho e1 e2 e3 rfl rfl rfl (fun q hq ty j => hp_fv_ur (Or.inl hq)) (fun b => ?_)) (fun q hq => ?_) hl
    · by_cases e : b = j
      · subst e
        simp only [updV, if_true]
        rw [hat]
        show _ = va_rf (up2 _ a b _ a b)
        rw [up2_s]; rfl
      · simp only [updV, if_neg e]
        exact (hp_fv_ur (Or.inr e)).symm
    · rcases List.mem_append.mp hq with z | z
      · exact hF q z
      · rw [List.mem_singleton.mp z]; exact ho.1
  | _ => rw [hat] at ht; cases ht
/-- a new array of numbers -/
theorem k_newa {n x0 y0 t len : Nat} {i : Int32} {aT : ArrayType} (hf : md_f M pc = some (.newarray aT, 2, n, x0, y0)) (ht : newarray.typeOf aT = sg_at t) (hD : ty_D (sg_at t) = false) (hR : ty_R (sg_at t) = false) (hta : t < sg_na) (hw : Cond.arrayClass (sg_at t) ∈ sg_tbl) (hi : i = nI len) (hlen : len < 60000000) (hc : kc + 1 ≤ R.cells) (hs : ks + len ≤ R.slots)
    (kk : Ok g M R Z (kc + 1) (ks + len) (hp_new h (.inr t) len) n L (.ref (hp_n h) :: st)) : Ok g M R Z kc ks h pc L (.int i :: st) := by
  intro p e s m args below meth c H locs ls C hW hF hl
  obtain ⟨hd, hn, -⟩ := md_dec C.2.2.2.2.2.2.2.2.2.2 hf
  subst hn
  have hK := C.2.2.2.2.2.2.2.1.1
  have hcl : i.toNatClampNeg = len := by rw [hi]; exact nI_clamp (by omega)
  refine va_newaK C.1 C.2.1 (by rw [ht]; exact C.2.2.2.2.2.1 _ hw) rfl hd rfl (by rw [hi]; exact nI_pos (by omega)) hcl ?_ hc hs hW.1 (fun H1 cA e1 z1 o1 hAr hNm => ?_)
  · have : componentBytes (newarray.typeOf aT) ≤ 8 := by cases aT <;> decide
    exact Nat.le_trans (Nat.mul_le_mul_left len this) (by omega)
  · have h2 := (hK.2 t _ (tb_get hta)).2
    have h3 : s.vm.findClass ("[" ++ (sg_at t).toString) = some (g.2.2.2.1 t) := by
      revert h2; show va_RA s (g.2.2.2.1 t) (sg_at t) → _
      cases hz : sg_at t <;> rw [hz] at hR <;> first | (cases hR; done) | exact id
    rw [ht] at hNm e1
    have h4 : cA = g.2.2.2.1 t := Option.some.inj (hNm.symm.trans h3)
    subst h4
    refine kk p e s m args below meth c H1 locs ls C (Wd_new hW (by rw [z1, hW.1]) (fun q hq => o1 q (by rw [← hW.1]; exact hq)) ?_) hF hl
    unfold hp_at
    have k1 : hp_k (hp_new h (.inr t) len) (hp_n h) = .inr t := va_up_self _ _ _
    have k2 : hp_l (hp_new h (.inr t) len) (hp_n h) = len := va_up_self _ _ _
    rw [k1, k2]
    show H1[hp_n h]? = _
    rw [e1]
    congr 2
    funext j
    exact (hp_fv_new hD).symm
/-- a new array of objects -/
theorem k_newq {n x0 y0 t len idx : Nat} {i : Int32} {E : String} (hf : md_f M pc = some (.anewarray idx, 3, n, x0, y0)) (ht : sg_at t = .object E) (hta : t < sg_na) (hw : Cond.classLink (md_y M).cls idx E ∈ sg_tbl) (hE : E ∈ sg_refs) (hi : i = nI len) (hlen : len < 60000000) (hc : kc + 1 ≤ R.cells) (hs : ks + len ≤ R.slots)
    (kk : Ok g M R Z (kc + 1) (ks + len) (hp_new h (.inr t) len) n L (.ref (hp_n h) :: st)) : Ok g M R Z kc ks h pc L (.int i :: st) := by
  intro p e s m args below meth c H locs ls C hW hF hl
  obtain ⟨hd, hn, -⟩ := md_dec C.2.2.2.2.2.2.2.2.2.2 hf
  subst hn
  have hK := C.2.2.2.2.2.2.2.1.1
  have hcl : i.toNatClampNeg = len := by rw [hi]; exact nI_clamp (by omega)
  refine W.anew C.1 C.2.1 C.2.2.2.2.1 (C.2.2.2.2.2.1 _ hw) (va_AO.use (C.2.2.2.2.2.2.2.1.2.2.1 E hE)) rfl hd rfl (by rw [hi]; exact nI_pos (by omega)) (by rw [hcl]; omega) hc (by rw [hcl]; exact hs) (fun cA kA comp f1 f2 f3 f4 => ?_)
  have h2 := (hK.2 t _ (tb_get hta)).2
  simp only [ht] at h2
  obtain ⟨kA', comp', m1, m2, m3, m4⟩ := h2
  have h4 : cA = g.2.2.2.1 t := Option.some.inj (f1.symm.trans m4)
  subst h4
  rw [hcl, hW.1]
  refine kk p e s m args below meth c _ locs ls C (Wd_new hW (by rw [Array.size_push]) (fun q hq => by rw [Array.getElem?_push, if_neg (Nat.ne_of_lt hq)]) ?_) hF hl
  unfold hp_at
  have k1 : hp_k (hp_new h (.inr t) len) (hp_n h) = .inr t := va_up_self _ _ _
  have k2 : hp_l (hp_new h (.inr t) len) (hp_n h) = len := va_up_self _ _ _
  rw [k1, k2]
  show (Array.push H _)[hp_n h]? = _
  rw [← hW.1, Array.getElem?_push_size, arrV_new]
  congr 2
  funext j
  rw [hW.1, ht]
  exact (hp_fv_new (h := h) (kd := .inr t) (len := len) (ty := .object E) (k := j) rfl).symm
theorem k_new {n y0 ci idx N : Nat} (hf : md_f M pc = some (.new idx, 3, n, ci, y0)) (w1 : Cond.classLink (md_y M).cls idx (sg_C ci) ∈ sg_tbl) (w2 : Cond.instantiable (sg_C ci) N ∈ sg_tbl) (w3 : Cond.initialized (sg_C ci) ∈ sg_tbl) (hN : sg_N ci = N) (hD : ((List.range N).all (fun k => !(ty_D (sg_ft ci k)))) = true) (hci : ci < 5) (hc : kc + 1 ≤ R.cells) (hs : ks + N ≤ R.slots)
    (kk : Ok g M R Z (kc + 1) (ks + N) (hp_new h (.inl ci) 0) n L (.ref (hp_n h) :: st)) : Ok g M R Z kc ks h pc L st := by
  intro p e s m args below meth c H locs ls C hW hF hl
  obtain ⟨hd, hn, -⟩ := md_dec C.2.2.2.2.2.2.2.2.2.2 hf
  subst hn
  have hK := C.2.2.2.2.2.2.2.1.1
  cases hr : sg_cl[ci]? with
  | none => exact absurd (List.getElem?_eq_none_iff.mp hr) (by show ¬ 5 ≤ ci; omega)
  | some r =>
    have hN2 : r.2.2 = N := by rw [← hN]; unfold sg_N; rw [hr]
    have hC2 : sg_C ci = r.1 := by unfold sg_C; rw [hr]
    rw [hC2] at w1 w2 w3
    obtain ⟨hin, hty, hnm⟩ := sg_cl_ok ci r hr
    have hKn := hK.1 ci r hr
    refine W.newcK C.1 C.2.1 C.2.2.2.2.1 (C.2.2.2.2.2.1 _ w1) (C.2.2.2.2.2.1 _ w2) (C.2.2.2.2.2.1 _ w3) rfl hd hc hs hKn.2.1 hW.1 (fun H1 kC hkC e1 z1 o1 => ?_)
    refine kk p e s m args below meth c H1 locs ls C (Wd_new hW (by rw [z1, hW.1]) (fun q hq => o1 q (by rw [← hW.1]; exact hq)) ?_) hF hl
    unfold hp_at
    have k1 : hp_k (hp_new h (.inl ci) 0) (hp_n h) = .inl ci := va_up_self _ _ _
    rw [k1]
    refine ⟨r, hr, (u_born (sg_ft ci) C.2.2.2.2.2.1 hin hKn hkC e1 hty).to (fun k hkN => ?_)⟩
    have h9 := List.all_eq_true.mp hD k (List.mem_range.mpr (by rw [← hN2]; exact hkN))
    exact (hp_fv_new (by simpa using h9)).symm
theorem k_objInit {n x0 y0 a idx : Nat} (hf : md_f M pc = some (.invokespecial idx, 3, n, x0, y0)) (hw : Cond.methodLink (md_y M).cls idx Lib.objectInit ∈ sg_tbl) (hw2 : Cond.instanceMethod Lib.objectInit ∈ sg_tbl) (hw3 : Cond.code Lib.objectInit ⟨#[0xb1]⟩ 1 none ∈ sg_tbl) (hfr : 1 ≤ R.frames) (hlo : (st.map fun v => v.category).sum + 12 ≤ R.locals) (kk : Ok g M R Z kc ks h n L st) : Ok g M R Z kc ks h pc L (.ref a :: st) := by
  intro p e s m args below meth c H locs ls C hW hF hl
  obtain ⟨hd, hn, -⟩ := md_dec C.2.2.2.2.2.2.2.2.2.2 hf
  subst hn
  refine W.objInit C.1 C.2.1 C.2.2.2.2.1 (C.2.2.2.2.2.1 _ hw) (C.2.2.2.2.2.1 _ hw2) (C.2.2.2.2.2.1 _ hw3) rfl (by rw [C.2.2.1]; exact hl.1.1) rfl hd hfr ?_ (kk p e s m args below meth c H locs ls C hW hF hl)
  show 2 * 0 + _ + 12 ≤ _
  omega
end ROWS2
section ROWS3
variable {g : Gx} {M : Md} {R : Room} {mc ms kc ks : Nat} {Q : Option Value → Hp → Prop} {h : Hp} {pc : Nat} {L : List (Option Value)} {st : List Value}
theorem k_iret {n x0 y0 : Nat} {x : Int32} (hf : md_f M pc = some (.ireturn, 1, n, x0, y0)) (hr : md_r M = some .int)  (hc : kc ≤ mc) (hs : ks ≤ ms) (hQ : Q (some (.int x)) h) : Ok g M R (Zm g mc ms Q) kc ks h pc L [.int x] := by
  intro p e s m args below meth c H locs ls C hW hF hl
  obtain ⟨hd, hn, -⟩ := md_dec C.2.2.2.2.2.2.2.2.2.2 hf
  subst hn
  refine W.widen hc hs ?_
  exact W.iret (v := x) (Qc := Qx g Q) (free := fun q => gx_B g ≤ q) C.1 C.2.1 (C.2.2.2.1.trans hr)  (fun t ht hv => ⟨_, h, rfl, hQ, by rw [ht]; exact hW, Tb_moved C.2.2.2.2.2.2.2.1 hv⟩) hF hd (hlocks := C.2.2.2.2.2.2.1)
theorem k_zret {n x0 y0 : Nat} {x : Int32} (hf : md_f M pc = some (.ireturn, 1, n, x0, y0)) (hr : md_r M = some .boolean) (hx : narrow .boolean (.int x) = .int x) (hc : kc ≤ mc) (hs : ks ≤ ms) (hQ : Q (some (.int x)) h) : Ok g M R (Zm g mc ms Q) kc ks h pc L [.int x] := by
  intro p e s m args below meth c H locs ls C hW hF hl
  obtain ⟨hd, hn, -⟩ := md_dec C.2.2.2.2.2.2.2.2.2.2 hf
  subst hn
  refine W.widen hc hs ?_
  exact W.zret (v := x) (Qc := Qx g Q) (free := fun q => gx_B g ≤ q) C.1 C.2.1 (C.2.2.2.1.trans hr) hx (fun t ht hv => ⟨_, h, rfl, hQ, by rw [ht]; exact hW, Tb_moved C.2.2.2.2.2.2.2.1 hv⟩) hF hd (hlocks := C.2.2.2.2.2.2.1)
theorem k_lret {n x0 y0 : Nat} {x : Int64} (hf : md_f M pc = some (.lreturn, 1, n, x0, y0)) (hr : md_r M = some .long)  (hc : kc ≤ mc) (hs : ks ≤ ms) (hQ : Q (some (.long x)) h) : Ok g M R (Zm g mc ms Q) kc ks h pc L [.long x] := by
  intro p e s m args below meth c H locs ls C hW hF hl
  obtain ⟨hd, hn, -⟩ := md_dec C.2.2.2.2.2.2.2.2.2.2 hf
  subst hn
  refine W.widen hc hs ?_
  exact W.lret (v := x) (Qc := Qx g Q) (free := fun q => gx_B g ≤ q) C.1 C.2.1 (C.2.2.2.1.trans hr)  (fun t ht hv => ⟨_, h, rfl, hQ, by rw [ht]; exact hW, Tb_moved C.2.2.2.2.2.2.2.1 hv⟩) hF hd (hlocks := C.2.2.2.2.2.2.1)
theorem k_vret {n x0 y0 : Nat}  (hf : md_f M pc = some (.return_, 1, n, x0, y0)) (hr : md_r M = none)  (hc : kc ≤ mc) (hs : ks ≤ ms) (hQ : Q (none) h) : Ok g M R (Zm g mc ms Q) kc ks h pc L [] := by
  intro p e s m args below meth c H locs ls C hW hF hl
  obtain ⟨hd, hn, -⟩ := md_dec C.2.2.2.2.2.2.2.2.2.2 hf
  subst hn
  refine W.widen hc hs ?_
  exact W.vret (Qc := Qx g Q) (free := fun q => gx_B g ≤ q) C.1 C.2.1 (C.2.2.2.1.trans hr)  (fun t ht hv => ⟨_, h, rfl, hQ, by rw [ht]; exact hW, Tb_moved C.2.2.2.2.2.2.2.1 hv⟩) hF hd (hlocks := C.2.2.2.2.2.2.1)
theorem k_aret {n x0 y0 x : Nat} {rt : FieldType} (hf : md_f M pc = some (.areturn, 1, n, x0, y0)) (hr : md_r M = some rt) (hrt : (∃ n, rt = .object n) ∨ ∃ t, rt = .array t) (hc : kc ≤ mc) (hs : ks ≤ ms) (hQ : Q (some (.ref x)) h) : Ok g M R (Zm g mc ms Q) kc ks h pc L [.ref x] := by
  intro p e s m args below meth c H locs ls C hW hF hl
  obtain ⟨hd, hn, -⟩ := md_dec C.2.2.2.2.2.2.2.2.2.2 hf
  subst hn
  refine W.widen hc hs ?_
  exact W.aret (v := .ref x) (Qc := Qx g Q) (free := fun q => gx_B g ≤ q) C.1 C.2.1 (C.2.2.2.1.trans hr) hrt (Or.inr ⟨x, rfl⟩) (fun t ht hv => ⟨_, h, rfl, hQ, by rw [ht]; exact hW, Tb_moved C.2.2.2.2.2.2.2.1 hv⟩) hF hd (hlocks := C.2.2.2.2.2.2.1)
end ROWS3
/-! CALLS -/
section CALLS
variable {g : Gx} {M M1 : Md} {R : Room} {Z : Zx} {kc ks : Nat} {h : Hp} {pc : Nat} {L : List (Option Value)} {st : List Value} {d mc ms : Nat}
theorem ct_blind {As : List Value} : FrameBlind (va_Pc As (fun U => Wd g h U.heap ∧ Tb g U)) := by
  intro a U f mk q
  obtain ⟨q0, q1, q2⟩ := q
  exact ⟨q0, q1, Tb_same q2 rfl⟩
/-- the room that a callee at depth d wants -/
def rm_ok (R : Room) (d maxL : Nat) : Prop := d + 1 ≤ R.frames ∧ 8 + (maxL + 11) + 48 * d ≤ R.locals
theorem rm_d {d mc ms maxL : Nat} (h : maxL ≤ 29) : rm_ok (rmd (d + 1) mc ms) d maxL := by
  refine ⟨Nat.le_refl _, ?_⟩
  show _ ≤ 48 * (d + 1)
  omega
/-- what the tables must say of a callee -/
def cl_w (M1 : Md) (n : Nat) : Prop := Cond.code (md_y M1) (md_b M1) (md_n M1) (md_r M1) ∈ sg_tbl ∧ Cond.initialized (md_y M1).cls ∈ sg_tbl ∧ ((md_y M1).cls ≠ "java/lang/invoke/MethodHandle" ∧ (md_y M1).cls ≠ "java/lang/invoke/VarHandle") ∧ (parseMethodDescriptor (md_y M1).desc).map (fun d => d.parameters.length) = some n
def cl_S (M1 : Md) (n : Nat) : Prop := cl_w M1 n ∧ Cond.static (md_y M1) ∈ sg_tbl
def cl_V (M1 : Md) (n : Nat) : Prop := cl_w M1 n ∧ Cond.instanceMethod (md_y M1) ∈ sg_tbl ∧ Cond.selects (md_y M1).cls (md_y M1) (md_y M1) ∈ sg_tbl
def cl_I (M1 : Md) (n : Nat) : Prop := cl_w M1 n ∧ Cond.instanceMethod (md_y M1) ∈ sg_tbl ∧ (md_y M1).name = "<init>" ∧ md_r M1 = none
theorem cl_good {s : State} {args : Array Value} (C : ∀ w ∈ sg_tbl, w.before args s = true) (h : Cond.code (md_y M1) (md_b M1) (md_n M1) (md_r M1) ∈ sg_tbl) : ∀ w ∈ md_ws M1, ∀ (a' : Array Value) (U : State), s.WarmedH U.vm → w.before a' U = true := by
  intro w hw a' U hU
  have h1 : w ∈ sg_tbl := by
    rcases List.mem_cons.mp hw with e | e
    · rw [e]; exact h
    · exact e
  exact word_at hU (sg_good w h1) (C w h1)
theorem cl_B {idx n : Nat} {s : State} {args : Array Value} (C : ∀ w ∈ sg_tbl, w.before args s = true) (hw : cl_w M1 n) (hk : Cond.methodLink (md_y M).cls idx (md_y M1) ∈ sg_tbl) (hR : rm_ok R d (md_n M1)) : CallB R s args (md_y M).cls idx (md_y M1) (md_b M1) (md_n M1) (md_r M1) (md_ws M1) (rmd d mc ms) mc ms n := by
  obtain ⟨w1, w2, w3, w4⟩ := hw
  refine ⟨rfl, rfl, hR.1, hR.2, cl_good C w1, List.mem_cons_self, C _ w1, C _ w2, w3, fun sig hs => ?_, C _ hk⟩
  rw [hs] at w4
  exact (Option.some.inj w4).symm
theorem cl_BN {idx n : Nat} {s : State} {args : Array Value} (C : ∀ w ∈ sg_tbl, w.before args s = true) (T : Tb g s) (hw : cl_w M1 n) (hk : Cond.methodLinkNest (md_y M).cls idx (md_y M1) sg_host ∈ sg_nest) (hR : rm_ok R d (md_n M1)) : va_CN R s args (md_y M).cls idx (md_y M1) sg_host (md_b M1) (md_n M1) (md_r M1) (md_ws M1) (rmd d mc ms) mc ms n := by
  obtain ⟨w1, w2, w3, w4⟩ := hw
  refine ⟨⟨rfl, rfl, hR.1, hR.2, cl_good C w1, List.mem_cons_self⟩, C _ w1, C _ w2, w3, fun sig hs => ?_, va_Nw.use rfl (T.2.1 _ hk)⟩
  rw [hs] at w4
  exact (Option.some.inj w4).symm
/-- an answer on the stack -/
def psh (r : Option Value) (st : List Value) : List Value := match r with
  | none => st
  | some v => v :: st
theorem psh_eq (r : Option Value) (st : List Value) : r.toList ++ st = psh r st := by cases r <;> rfl
/-- behind a call -/
theorem cl_go {st0 : List Value} {p : Program} {e : Env} {s : State} {m : MethodId} {args : Array Value} {below : List Frame} {meth : Method} {c : Code} {H : Heap} {locs : List Loc} {ls : Array Slot} {a : Array Value}
    (C : Cx g M p s m args meth c) (hF : ∀ q ∈ locs, gx_B g ≤ q.base) (hl : lvk ls (md_n M) L)
    (hr : va_Run p (gx_l g) e R s m args below meth c H locs kc ks mc ms (F0 m pc ls st0) st (Qx g (fun r h1 => Ok g M R Z (kc + mc) (ks + ms) h1 (pc + 3) L (psh r st)) a) (fun q => gx_B g ≤ q)) : W p (gx_l g) e R s m args below meth c H locs kc ks (Z below args s) (F0 m pc ls st0) := by
  intro T hT X
  obtain ⟨v, st₀, t, T', L1, h0, X', hL, e1, e2, ⟨r, h1, hv, hq, hW, hTb⟩, stp⟩ := hr T hT X
  cases hv
  rw [psh_eq] at stp
  obtain ⟨t2, a1, b1⟩ := hq p e s m args below meth c T'.heap (locs ++ L1) ls C (by rw [e1]; exact hW) (fun q hq => by
    rcases List.mem_append.mp hq with z | z
    · exact hF q z
    · exact hL q z) hl T' rfl X'
  exact ⟨t2, stp t2 a1, b1⟩
theorem k_callS {n x0 y0 idx na : Nat}  {As st0 : List Value} (hf : md_f M pc = some (.invokestatic idx, 3, n, x0, y0)) (hs0 : st0 = As.reverse ++ st) (hna : As.length = na) (hst : (st.map fun v => v.category).sum ≤ 8) (hcm : kc + mc ≤ R.cells) (hsm : ks + ms ≤ R.slots) (hR : rm_ok R d (md_n M1)) (hk : Cond.methodLink (md_y M).cls idx (md_y M1) ∈ sg_tbl) (hw : cl_S M1 na)
    (kk : Ct g M1 d mc ms (As) h (fun r h1 => Ok g M R Z (kc + mc) (ks + ms) h1 n L (psh r st))) : Ok g M R Z kc ks h pc L st0 := by
  intro p e s m args below meth c H locs ls C hW hF hl
  obtain ⟨hd, hn, -⟩ := md_dec C.2.2.2.2.2.2.2.2.2.2 hf
  subst hn
  exact cl_go C hF hl (va_runS ⟨C.1, C.2.1, C.2.2.1, C.2.2.2.2.1, C.2.2.2.2.2.1⟩ kk ⟨cl_B C.2.2.2.2.2.1 hw.1 hk hR, C.2.2.2.2.2.1 _ hw.2⟩ ⟨ct_blind, fun U hU hv => ⟨rfl, by rw [hU]; exact hW, Tb_moved C.2.2.2.2.2.2.2.1 hv⟩⟩ rfl hna hl.1.1 hs0 (lv_room hst) hd ⟨hcm, hsm⟩)
theorem k_callSN {n x0 y0 idx na : Nat}  {As st0 : List Value} (hf : md_f M pc = some (.invokestatic idx, 3, n, x0, y0)) (hs0 : st0 = As.reverse ++ st) (hna : As.length = na) (hst : (st.map fun v => v.category).sum ≤ 8) (hcm : kc + mc ≤ R.cells) (hsm : ks + ms ≤ R.slots) (hR : rm_ok R d (md_n M1)) (hk : Cond.methodLinkNest (md_y M).cls idx (md_y M1) sg_host ∈ sg_nest) (hw : cl_S M1 na)
    (kk : Ct g M1 d mc ms (As) h (fun r h1 => Ok g M R Z (kc + mc) (ks + ms) h1 n L (psh r st))) : Ok g M R Z kc ks h pc L st0 := by
  intro p e s m args below meth c H locs ls C hW hF hl
  obtain ⟨hd, hn, -⟩ := md_dec C.2.2.2.2.2.2.2.2.2.2 hf
  subst hn
  exact cl_go C hF hl (va_runSN ⟨C.1, C.2.1, C.2.2.1, C.2.2.2.2.1, C.2.2.2.2.2.1⟩ kk ⟨cl_BN C.2.2.2.2.2.1 C.2.2.2.2.2.2.2.1 hw.1 hk hR, C.2.2.2.2.2.1 _ hw.2, trivial⟩ ⟨ct_blind, fun U hU hv => ⟨rfl, by rw [hU]; exact hW, Tb_moved C.2.2.2.2.2.2.2.1 hv⟩⟩ rfl hna hl.1.1 hs0 (lv_room hst) hd ⟨hcm, hsm⟩)
theorem k_callV {n x0 y0 idx na : Nat} {b ci : Nat} {As st0 : List Value} (hf : md_f M pc = some (.invokevirtual idx, 3, n, x0, y0)) (hs0 : st0 = As.reverse ++ .ref b :: st) (hna : As.length = na) (hst : (st.map fun v => v.category).sum ≤ 8) (hcm : kc + mc ≤ R.cells) (hsm : ks + ms ≤ R.slots) (hR : rm_ok R d (md_n M1)) (hk : Cond.methodLink (md_y M).cls idx (md_y M1) ∈ sg_tbl) (hw : cl_V M1 na) (ho : isO g h b ci) (hc : sg_C ci = (md_y M1).cls)
    (kk : Ct g M1 d mc ms (.ref b :: As) h (fun r h1 => Ok g M R Z (kc + mc) (ks + ms) h1 n L (psh r st))) : Ok g M R Z kc ks h pc L st0 := by
  intro p e s m args below meth c H locs ls C hW hF hl
  obtain ⟨hd, hn, -⟩ := md_dec C.2.2.2.2.2.2.2.2.2.2 hf
  subst hn
  obtain ⟨r, hr, cell, g1, g2, g3, -⟩ := Wd_O hW ho
  have hc2 : r.1 = (md_y M1).cls := by rw [← hc]; unfold sg_C; rw [hr]
  have hrc : ∃ cellB : Cell, H[b]? = some cellB ∧ cellB.vm.isStatics = false ∧ s.vm.findClass (md_y M1).cls = some cellB.cls := ⟨cell, g1, by rw [g3]; rfl, by rw [g2, ← hc2]; exact (C.2.2.2.2.2.2.2.1.1.1 ci r hr).2.1⟩
  exact cl_go C hF hl (va_runV (C := (md_y M1).cls) ⟨C.1, C.2.1, C.2.2.1, C.2.2.2.2.1, C.2.2.2.2.2.1⟩ kk ⟨cl_B C.2.2.2.2.2.1 hw.1 hk hR, C.2.2.2.2.2.1 _ hw.2.1, C.2.2.2.2.2.1 _ hw.2.2⟩ ⟨ct_blind, hrc, fun U hU hv => ⟨rfl, by rw [hU]; exact hW, Tb_moved C.2.2.2.2.2.2.2.1 hv⟩⟩ rfl hna hl.1.1 hs0 (lv_room hst) hd ⟨hcm, hsm⟩)
theorem k_callVN {n x0 y0 idx na : Nat} {b ci : Nat} {As st0 : List Value} (hf : md_f M pc = some (.invokevirtual idx, 3, n, x0, y0)) (hs0 : st0 = As.reverse ++ .ref b :: st) (hna : As.length = na) (hst : (st.map fun v => v.category).sum ≤ 8) (hcm : kc + mc ≤ R.cells) (hsm : ks + ms ≤ R.slots) (hR : rm_ok R d (md_n M1)) (hk : Cond.methodLinkNest (md_y M).cls idx (md_y M1) sg_host ∈ sg_nest) (hw : cl_V M1 na) (ho : isO g h b ci) (hc : sg_C ci = (md_y M1).cls)
    (kk : Ct g M1 d mc ms (.ref b :: As) h (fun r h1 => Ok g M R Z (kc + mc) (ks + ms) h1 n L (psh r st))) : Ok g M R Z kc ks h pc L st0 := by
  intro p e s m args below meth c H locs ls C hW hF hl
  obtain ⟨hd, hn, -⟩ := md_dec C.2.2.2.2.2.2.2.2.2.2 hf
  subst hn
  obtain ⟨r, hr, cell, g1, g2, g3, -⟩ := Wd_O hW ho
  have hc2 : r.1 = (md_y M1).cls := by rw [← hc]; unfold sg_C; rw [hr]
  have hrc : ∃ cellB : Cell, H[b]? = some cellB ∧ cellB.vm.isStatics = false ∧ s.vm.findClass (md_y M1).cls = some cellB.cls := ⟨cell, g1, by rw [g3]; rfl, by rw [g2, ← hc2]; exact (C.2.2.2.2.2.2.2.1.1.1 ci r hr).2.1⟩
  exact cl_go C hF hl (va_runVN (C := (md_y M1).cls) ⟨C.1, C.2.1, C.2.2.1, C.2.2.2.2.1, C.2.2.2.2.2.1⟩ kk ⟨cl_BN C.2.2.2.2.2.1 C.2.2.2.2.2.2.2.1 hw.1 hk hR, C.2.2.2.2.2.1 _ hw.2.1, C.2.2.2.2.2.1 _ hw.2.2⟩ ⟨ct_blind, hrc, fun U hU hv => ⟨rfl, by rw [hU]; exact hW, Tb_moved C.2.2.2.2.2.2.2.1 hv⟩⟩ rfl hna hl.1.1 hs0 (lv_room hst) hd ⟨hcm, hsm⟩)
theorem k_callI {n x0 y0 idx na : Nat} {b : Nat} {As st0 : List Value} (hf : md_f M pc = some (.invokespecial idx, 3, n, x0, y0)) (hs0 : st0 = As.reverse ++ .ref b :: st) (hna : As.length = na) (hst : (st.map fun v => v.category).sum ≤ 8) (hcm : kc + mc ≤ R.cells) (hsm : ks + ms ≤ R.slots) (hR : rm_ok R d (md_n M1)) (hk : Cond.methodLink (md_y M).cls idx (md_y M1) ∈ sg_tbl) (hw : cl_I M1 na)
    (kk : Ct g M1 d mc ms (.ref b :: As) h (fun r h1 => Ok g M R Z (kc + mc) (ks + ms) h1 n L (psh r st))) : Ok g M R Z kc ks h pc L st0 := by
  intro p e s m args below meth c H locs ls C hW hF hl
  obtain ⟨hd, hn, -⟩ := md_dec C.2.2.2.2.2.2.2.2.2.2 hf
  subst hn
  have hB := cl_B (M := M) (M1 := M1) (R := R) (d := d) (mc := mc) (ms := ms) (idx := idx) (n := na) C.2.2.2.2.2.1 hw.1 hk hR
  rw [hw.2.2.2] at hB
  exact cl_go C hF hl (va_runI ⟨C.1, C.2.1, C.2.2.1, C.2.2.2.2.1, C.2.2.2.2.2.1⟩ kk ⟨hB, hw.2.2.1, C.2.2.2.2.2.1 _ hw.2.1⟩ ⟨ct_blind, fun U hU hv => ⟨rfl, by rw [hU]; exact hW, Tb_moved C.2.2.2.2.2.2.2.1 hv⟩⟩ rfl hna hl.1.1 hs0 (lv_room hst) hd ⟨hcm, hsm⟩)
theorem k_callIN {n x0 y0 idx na : Nat} {b : Nat} {As st0 : List Value} (hf : md_f M pc = some (.invokespecial idx, 3, n, x0, y0)) (hs0 : st0 = As.reverse ++ .ref b :: st) (hna : As.length = na) (hst : (st.map fun v => v.category).sum ≤ 8) (hcm : kc + mc ≤ R.cells) (hsm : ks + ms ≤ R.slots) (hR : rm_ok R d (md_n M1)) (hk : Cond.methodLinkNest (md_y M).cls idx (md_y M1) sg_host ∈ sg_nest) (hw : cl_I M1 na)
    (kk : Ct g M1 d mc ms (.ref b :: As) h (fun r h1 => Ok g M R Z (kc + mc) (ks + ms) h1 n L (psh r st))) : Ok g M R Z kc ks h pc L st0 := by
  intro p e s m args below meth c H locs ls C hW hF hl
  obtain ⟨hd, hn, -⟩ := md_dec C.2.2.2.2.2.2.2.2.2.2 hf
  subst hn
  have hB := cl_BN (g := g) (M := M) (M1 := M1) (R := R) (d := d) (mc := mc) (ms := ms) (idx := idx) (n := na) C.2.2.2.2.2.1 C.2.2.2.2.2.2.2.1 hw.1 hk hR
  rw [hw.2.2.2] at hB
  exact cl_go C hF hl (va_runIN ⟨C.1, C.2.1, C.2.2.1, C.2.2.2.2.1, C.2.2.2.2.2.1⟩ kk ⟨hB, hw.2.2.1, C.2.2.2.2.2.1 _ hw.2.1⟩ ⟨ct_blind, fun U hU hv => ⟨rfl, by rw [hU]; exact hW, Tb_moved C.2.2.2.2.2.2.2.1 hv⟩⟩ rfl hna hl.1.1 hs0 (lv_room hst) hd ⟨hcm, hsm⟩)
end CALLS
