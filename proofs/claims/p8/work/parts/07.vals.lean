section VALS
variable {g : Gx} {M : Md} {R : Room} {Z : Zx} {kc ks : Nat} {h : Hp} {pc : Nat} {L : List (Option Value)} {st : List Value} {n x0 y0 : Nat}
theorem k_gI {idx ci k a : Nat} {x : Int32} (hf : md_f M pc = some (.getfield idx, 3, n, ci, k)) (ht : ty_I (sg_ft ci k) = true) (ho : isO g h a ci) (hv : hp_i h a k = x) (kk : Ok g M R Z kc ks h n L (.int x :: st)) : Ok g M R Z kc ks h pc L (.ref a :: st) := k_getI hf ht ho (by rw [hv]; exact kk)
theorem k_gL {idx ci k a : Nat} {x : Int64} (hf : md_f M pc = some (.getfield idx, 3, n, ci, k)) (ht : sg_ft ci k = .long) (ho : isO g h a ci) (hv : hp_j h a k = x) (kk : Ok g M R Z kc ks h n L (.long x :: st)) : Ok g M R Z kc ks h pc L (.ref a :: st) := k_getL hf ht ho (by rw [hv]; exact kk)
theorem k_iA {a len j : Nat} {i x : Int32} (hf : md_f M pc = some (.iaload, 1, n, x0, y0)) (ho : isA g h a 0 len) (hi : i = nI j) (hj : j < len) (hlen : len < 2147483648) (hv : hp_i h a j = x) (kk : Ok g M R Z kc ks h n L (.int x :: st)) : Ok g M R Z kc ks h pc L (.int i :: .ref a :: st) := k_iald hf ho rfl (by decide) hi hj hlen (by rw [hv]; exact kk)
theorem k_zA {a len j : Nat} {i x : Int32} (hf : md_f M pc = some (.baload, 1, n, x0, y0)) (ho : isA g h a 2 len) (hi : i = nI j) (hj : j < len) (hlen : len < 2147483648) (hv : hp_i h a j = x) (kk : Ok g M R Z kc ks h n L (.int x :: st)) : Ok g M R Z kc ks h pc L (.int i :: .ref a :: st) := k_zald hf ho rfl (by decide) hi hj hlen (by rw [hv]; exact kk)
theorem k_lA {a len j : Nat} {i : Int32} {x : Int64} (hf : md_f M pc = some (.laload, 1, n, x0, y0)) (ho : isA g h a 1 len) (hi : i = nI j) (hj : j < len) (hlen : len < 2147483648) (hv : hp_j h a j = x) (kk : Ok g M R Z kc ks h n L (.long x :: st)) : Ok g M R Z kc ks h pc L (.int i :: .ref a :: st) := k_lald hf ho rfl (by decide) hi hj hlen (by rw [hv]; exact kk)
theorem k_iS {a len j : Nat} {i x : Int32} (hf : md_f M pc = some (.iastore, 1, n, x0, y0)) (ho : isA g h a 0 len) (hi : i = nI j) (hj : j < len) (hlen : len < 2147483648) (kk : Ok g M R Z kc ks (hp_ui h a j x) n L st) : Ok g M R Z kc ks h pc L (.int x :: .int i :: .ref a :: st) := k_iast hf ho rfl (by decide) hi hj hlen kk
theorem k_zS {a len j : Nat} {i x : Int32} (hf : md_f M pc = some (.bastore, 1, n, x0, y0)) (ho : isA g h a 2 len) (hi : i = nI j) (hj : j < len) (hlen : len < 2147483648) (hx : narrow .boolean (.int x) = .int x) (kk : Ok g M R Z kc ks (hp_ui h a j x) n L st) : Ok g M R Z kc ks h pc L (.int x :: .int i :: .ref a :: st) := k_zast hf ho rfl (by decide) hi hj hlen hx kk
theorem k_lS {a len j : Nat} {i : Int32} {x : Int64} (hf : md_f M pc = some (.lastore, 1, n, x0, y0)) (ho : isA g h a 1 len) (hi : i = nI j) (hj : j < len) (hlen : len < 2147483648) (kk : Ok g M R Z kc ks (hp_uj h a j x) n L st) : Ok g M R Z kc ks h pc L (.long x :: .int i :: .ref a :: st) := k_last hf ho rfl (by decide) hi hj hlen kk
/-- the script's own ints, its length -/
theorem k_sld {j : Nat} {i : Int32} (hf : md_f M pc = some (.iaload, 1, n, x0, y0)) (hi : i = nI j) (hj : j < gx_L g) (hL : gx_L g < 2147483648) (kk : Ok g M R Z kc ks h n L (.int (gx_x g j) :: st)) : Ok g M R Z kc ks h pc L (.int i :: .ref (gx_b g) :: st) := by
  intro p e s m args below meth c H locs ls C hW hF hl
  obtain ⟨hd, hn, -⟩ := md_dec C.2.2.2.2.2.2.2.2.2.2 hf
  subst hn
  obtain ⟨scr, h1, h2, h3, h4, h5⟩ := C.2.2.2.2.2.2.2.1.2.2.2
  have hb : gx_b g < gx_B g := (Array.getElem?_eq_some_iff.mp h1).1
  have hc := ix_cl hi hj hL
  exact W.iald (v := .int (gx_x g j)) C.1 C.2.1 (by rw [hW.2.2.1 _ hb]; exact h1) h2 h3 (by rw [h4]; exact ix_in hi hj hL) (by rw [hc]; exact h5 j hj) rfl rfl hd (kk p e s m args below meth c H locs ls C hW hF hl)
theorem k_slen (hf : md_f M pc = some (.arraylength, 1, n, x0, y0)) (kk : Ok g M R Z kc ks h n L (.int (nI (gx_L g)) :: st)) : Ok g M R Z kc ks h pc L (.ref (gx_b g) :: st) := by
  intro p e s m args below meth c H locs ls C hW hF hl
  obtain ⟨hd, hn, -⟩ := md_dec C.2.2.2.2.2.2.2.2.2.2 hf
  subst hn
  obtain ⟨scr, h1, h2, h3, h4, h5⟩ := C.2.2.2.2.2.2.2.1.2.2.2
  have hb : gx_b g < gx_B g := (Array.getElem?_eq_some_iff.mp h1).1
  exact W.alen (n := Int32.ofNat (gx_L g)) C.1 C.2.1 (by rw [hW.2.2.1 _ hb]; exact h1) h2 (by rw [h4] <;> rfl) rfl rfl hd (kk p e s m args below meth c H locs ls C hW hF hl)
end VALS
