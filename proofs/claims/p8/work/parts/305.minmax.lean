section MM
variable {g : Gx} {M : Md} {R : Room} {Z : Zx} {kc ks d : Nat} {Q : Option Value → Hp → Prop} {h : Hp} {pc : Nat} {L : List (Option Value)} {st : List Value} {n x0 y0 : Nat}
theorem k_min {idx : Nat} {x y : Int32} (hf : md_f M pc = some (.invokestatic idx, 3, n, x0, y0)) (w1 : Cond.methodLink (md_y M).cls idx ⟨"java/lang/Math", "min", "(II)I"⟩ ∈ sg_tbl) (hfr : 1 ≤ R.frames) (hlo : (st.map fun v => v.category).sum + 13 ≤ R.locals) (hc : kc ≤ R.cells) (hs : ks ≤ R.slots) (kk : Ok g M R Z kc ks h n L (.int (if y < x then y else x) :: st)) : Ok g M R Z kc ks h pc L (.int y :: .int x :: st) := by
  intro p e s m args below meth c H locs ls C hW hF hl
  obtain ⟨hd, hn, -⟩ := md_dec C.2.2.2.2.2.2.2.2.2.2 hf
  subst hn
  exact va_mmin C.1 C.2.1 (C.2.2.1.trans hl.1.1.symm) C.2.2.2.2.1 (C.2.2.2.2.2.1 _ w1) (C.2.2.2.2.2.1 _ wd_251) (C.2.2.2.2.2.1 _ wd_6) (C.2.2.2.2.2.1 _ wd_252) hfr hlo hc hs hd (kk p e s m args below meth c H locs ls C hW hF hl)
theorem k_minN {idx : Nat} {a b : Nat} (hf : md_f M pc = some (.invokestatic idx, 3, n, x0, y0)) (w1 : Cond.methodLink (md_y M).cls idx ⟨"java/lang/Math", "min", "(II)I"⟩ ∈ sg_tbl) (ha : a < 2 ^ 31) (hb : b < 2 ^ 31) (hst : (st.map fun v => v.category).sum ≤ 8) (kk : Om g M (d + 1) Q h n L (.int (nI (min a b)) :: st)) : Om g M (d + 1) Q h pc L (.int (nI b) :: .int (nI a) :: st) := by
  refine k_min hf w1 (by show 1 ≤ d + 1; omega) (by show _ + 13 ≤ 48 * (d + 1); omega) (Nat.zero_le _) (Nat.zero_le _) ?_
  have e : (if nI b < nI a then nI b else nI a) = nI (min a b) := by
    by_cases z : b < a
    · rw [if_pos (nI_lt z (by omega)), show min a b = b by omega]
    · rw [if_neg (nI_nlt (by omega) (by omega)), show min a b = a by omega]
  rw [e]; exact kk
theorem k_max {idx : Nat} {x y : Int32} (hf : md_f M pc = some (.invokestatic idx, 3, n, x0, y0)) (w1 : Cond.methodLink (md_y M).cls idx ⟨"java/lang/Math", "max", "(II)I"⟩ ∈ sg_tbl) (hfr : 1 ≤ R.frames) (hlo : (st.map fun v => v.category).sum + 13 ≤ R.locals) (hc : kc ≤ R.cells) (hs : ks ≤ R.slots) (kk : Ok g M R Z kc ks h n L (.int (if x < y then y else x) :: st)) : Ok g M R Z kc ks h pc L (.int y :: .int x :: st) := by
  intro p e s m args below meth c H locs ls C hW hF hl
  obtain ⟨hd, hn, -⟩ := md_dec C.2.2.2.2.2.2.2.2.2.2 hf
  subst hn
  exact va_mmax C.1 C.2.1 (C.2.2.1.trans hl.1.1.symm) C.2.2.2.2.1 (C.2.2.2.2.2.1 _ w1) (C.2.2.2.2.2.1 _ wd_222) (C.2.2.2.2.2.1 _ wd_6) (C.2.2.2.2.2.1 _ wd_223) hfr hlo hc hs hd (kk p e s m args below meth c H locs ls C hW hF hl)
theorem k_maxN {idx : Nat} {a b : Nat} (hf : md_f M pc = some (.invokestatic idx, 3, n, x0, y0)) (w1 : Cond.methodLink (md_y M).cls idx ⟨"java/lang/Math", "max", "(II)I"⟩ ∈ sg_tbl) (ha : a < 2 ^ 31) (hb : b < 2 ^ 31) (hst : (st.map fun v => v.category).sum ≤ 8) (kk : Om g M (d + 1) Q h n L (.int (nI (max a b)) :: st)) : Om g M (d + 1) Q h pc L (.int (nI b) :: .int (nI a) :: st) := by
  refine k_max hf w1 (by show 1 ≤ d + 1; omega) (by show _ + 13 ≤ 48 * (d + 1); omega) (Nat.zero_le _) (Nat.zero_le _) ?_
  have e : (if nI a < nI b then nI b else nI a) = nI (max a b) := by
    by_cases z : a < b
    · rw [if_pos (nI_lt z (by omega)), show max a b = b by omega]
    · rw [if_neg (nI_nlt (by omega) (by omega)), show max a b = a by omega]
  rw [e]; exact kk
end MM
