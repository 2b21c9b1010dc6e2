theorem lgu_ind {m : zP} {cf cf1 : Nat → Int32} {ca ca1 : Nat → Nat → Int32} {d : Int32} : (sX2_letOneGetUp m cf ca d).1 = (sX2_letOneGetUp m cf1 ca1 d).1 := by
  unfold sX2_letOneGetUp
  simp only [apply_ite Prod.fst]
theorem mstep_ind {m : zP} {cf cf1 : Nat → Int32} {ca ca1 : Nat → Nat → Int32} : (mstep true (m, cf, ca)).1 = (mstep true (m, cf1, ca1)).1 := by
  have e := lgu_ind (m := (sX2_driftOnce m).2) (cf := cf) (cf1 := cf1) (ca := ca) (ca1 := ca1) (d := (sX2_driftOnce m).1)
  unfold mstep mstep0
  rw [if_pos rfl, if_pos rfl]
  dsimp only
  rw [e]
theorem mpass_ind : ∀ (k : Nat) (s t : zS), s.1 = t.1 → (mpass true k s).1 = (mpass true k t).1
  | 0, s, t, h => h
  | k + 1, s, t, h => by
    obtain ⟨m, c, a⟩ := s
    obtain ⟨m1, c1, a1⟩ := t
    dsimp only at h
    subst h
    exact mpass_ind k (mstep true (m, c, a)) (mstep true (m, c1, a1)) mstep_ind
