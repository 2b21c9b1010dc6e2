theorem Rd_S {f : Nat → Int32} {ar : Nat → Nat → Int32} {r q : Nat} {p d v : Int32} {l : List (Int32 → Bool)} (h : f 18 = nI r) (hr : r < 1000) (hp : p.toNatClampNeg = q) (hX : Rd l (upd f 18 (f 18 + 1)) ar (r + 1) q (q + 1) (sX7_readsDigits (upd f 18 (f 18 + 1)) ar p d) [(q, v)]) : Rd (cS :: l) f ar r q (q + 1) (sX7_readsSigned f ar p d) [(q, if tT f ar r = 45 then -v else v)] := by
  have core : cS (tT f ar r) = true → Rd (cS :: l) f ar r q (q + 1) (if (sX7_readsDigits (upd f 18 (f 18 + 1)) ar p d).1 = true then (true, (sX7_readsDigits (upd f 18 (f 18 + 1)) ar p d).2.1, up2 (sX7_readsDigits (upd f 18 (f 18 + 1)) ar p d).2.2 16 (upd ((sX7_readsDigits (upd f 18 (f 18 + 1)) ar p d).2.2 16) p.toNatClampNeg (if tT f ar r = 45 then -((sX7_readsDigits (upd f 18 (f 18 + 1)) ar p d).2.2 16 p.toNatClampNeg) else (sX7_readsDigits (upd f 18 (f 18 + 1)) ar p d).2.2 16 p.toNatClampNeg))) else (false, (sX7_readsDigits (upd f 18 (f 18 + 1)) ar p d).2.1, (sX7_readsDigits (upd f 18 (f 18 + 1)) ar p d).2.2)) [(q, if tT f ar r = 45 then -v else v)] := by
    intro hs
    generalize sX7_readsDigits (upd f 18 (f 18 + 1)) ar p d = X at hX ⊢
    obtain ⟨a1, a2, a3, a4, a5⟩ := hX
    have hT : tT (upd f 18 (f 18 + 1)) ar = tT f ar := tT_eq rfl rfl
    rw [hT] at a1 a2 a5
    have h2 : upd (upd f 18 (f 18 + 1)) 18 (nI (r + 1 + fitL l (tT f ar) (r + 1))) = upd f 18 (nI (r + (fitL l (tT f ar) (r + 1) + 1))) := by rw [upd_2, show r + 1 + fitL l (tT f ar) (r + 1) = r + (fitL l (tT f ar) (r + 1) + 1) by omega]
    unfold Rd
    rw [fitL_c, if_pos hs, List.length_cons, hp]
    by_cases c : fitL l (tT f ar) (r + 1) = l.length
    · have hx : X.1 = true := by rw [a1, decide_eq_true c]
      rw [if_pos hx]
      obtain ⟨-, b2⟩ := a5 c (q, v) List.mem_cons_self
      refine ⟨by rw [decide_eq_true (by omega)], a2.trans h2, fun k hk => (up2_ne hk).trans (a3 k hk), fun i hi => (upd_ne (by omega)).trans (a4 i hi), fun _ q1 hq => ?_⟩
      rw [List.mem_singleton] at hq
      subst hq
      refine ⟨⟨Nat.le_refl _, Nat.lt_succ_self _⟩, ?_⟩
      show upd (X.2.2 16) q _ q = _
      rw [show ∀ w : Int32, upd (X.2.2 16) q w q = w from fun w => if_pos rfl, b2]
    · have hx : ¬ X.1 = true := by rw [a1, decide_eq_false c]; exact Bool.false_ne_true
      rw [if_neg hx]
      exact ⟨by rw [decide_eq_false (by omega)], a2.trans h2, a3, a4, fun hc => by omega⟩
  unfold sX7_readsSigned
  rw [nx_T h (by omega)]
  by_cases c43 : tT f ar r = 43
  · rw [if_pos c43]
    exact core (by unfold cS; rw [decide_eq_true c43]; rfl)
  · rw [if_neg c43]
    by_cases c45 : tT f ar r = 45
    · rw [if_pos c45]
      have hc := core (by unfold cS; rw [decide_eq_true c45, Bool.or_true])
      simp only [if_pos c45] at hc ⊢
      exact hc
    · rw [if_neg c45]
      have hs : ¬ cS (tT f ar r) = true := by unfold cS; rw [decide_eq_false c43, decide_eq_false c45]; decide
      unfold Rd
      rw [fitL_c, if_neg hs]
      exact ⟨(decide_eq_false (by rw [List.length_cons]; omega)).symm, (upd_id h).symm, fun _ _ => rfl, fun _ _ => rfl, fun hc => by rw [List.length_cons] at hc; omega⟩
def two (T : Nat → Int32) (r : Nat) : Int32 := 10 * (T r - 48) + (T (r + 1) - 48)
def sgn (T : Nat → Int32) (r : Nat) (v : Int32) : Int32 := if T r = 45 then -v else v
theorem h18s {f : Nat → Int32} {r : Nat} (h : f 18 = nI r) : upd f 18 (f 18 + 1) 18 = nI (r + 1) := by
  show f 18 + 1 = _
  rw [h, nI_1]
theorem Rd_S1 {f : Nat → Int32} {ar : Nat → Nat → Int32} {r q : Nat} {p : Int32} (h : f 18 = nI r) (hr : r < 990) (hp : p.toNatClampNeg = q) : Rd [cS, cD] f ar r q (q + 1) (sX7_readsSigned f ar p 1) [(q, sgn (tT f ar) r (tT f ar (r + 1) - 48))] := Rd_S h (by omega) hp ((show tT (upd f 18 (f 18 + 1)) ar = tT f ar from tT_eq rfl rfl) ▸ Rd_1 (h18s h) (by omega) hp)
theorem Rd_S2 {f : Nat → Int32} {ar : Nat → Nat → Int32} {r q : Nat} {p : Int32} (h : f 18 = nI r) (hr : r < 990) (hp : p.toNatClampNeg = q) : Rd [cS, cD, cD] f ar r q (q + 1) (sX7_readsSigned f ar p 2) [(q, sgn (tT f ar) r (two (tT f ar) (r + 1)))] := Rd_S h (by omega) hp ((show tT (upd f 18 (f 18 + 1)) ar = tT f ar from tT_eq rfl rfl) ▸ Rd_2 (h18s h) (by omega) hp)
/-! people: five digits, one by one -/
def vsP (T : Nat → Int32) (r q : Nat) : Nat → List (Nat × Int32)
  | 0 => []
  | j + 1 => [(q, T r - 48)] ++ vsP T (r + 1) (q + 1) j
def lsD : Nat → List (Int32 → Bool)
  | 0 => []
  | j + 1 => [cD] ++ lsD j
theorem pa_cl {q a : Nat} (h : q + a < 2 ^ 31) : (nI q + nI a).toNatClampNeg = q + a := by rw [nI_add, nI_clamp h]
theorem Rd_it : ∀ (j a r q : Nat) (f : Nat → Int32) (ar : Nat → Nat → Int32), f 18 = nI r → r + j < 1000 → q + a + j < 1000 → Rd (lsD j) f ar r (q + a) (q + a + j) (itX7_readsPerson (nI q) j a f ar) (vsP (tT f ar) r (q + a) j)
  | 0, a, r, q, f, ar, h, _, _ => Rd.nil h
  | j + 1, a, r, q, f, ar, h, hr, hq => by
    have h1 : Rd [cD] f ar r (q + a) (q + a + 1) (sX7_readsDigits f ar (nI q + nI a) 1) [(q + a, tT f ar r - 48)] := Rd_1 h (by omega) (pa_cl (by omega))
    have h2 := Rd.app (l2 := lsD j) (hi := q + a + (j + 1)) (Y := itX7_readsPerson (nI q) j (a + 1) (sX7_readsDigits f ar (nI q + nI a) 1).2.1 (sX7_readsDigits f ar (nI q + nI a) 1).2.2) (v2 := vsP (tT f ar) (r + 1) (q + a + 1) j) h1 (fun h18 hT => by
      have ih := Rd_it j (a + 1) (r + 1) q _ (sX7_readsDigits f ar (nI q + nI a) 1).2.2 h18 (by omega) (by omega)
      rw [hT] at ih
      exact (show q + (a + 1) + j = q + a + (j + 1) by omega) ▸ ih) (by omega) (by omega)
    refine h2.congr ?_
    by_cases c : (sX7_readsDigits f ar (nI q + nI a) 1).1 = true
    · rw [if_pos c]
      refine itX7_readsPerson_n ?_
      unfold stX7_readsPerson
      rw [if_pos c]
    · rw [if_neg c]
      refine itX7_readsPerson_r ?_
      unfold stX7_readsPerson
      rw [if_neg c]
theorem Rd_P {f : Nat → Int32} {ar : Nat → Nat → Int32} {r q : Nat} (h : f 18 = nI r) (hr : r < 900) (hq : q < 900) : Rd [cP, cD, cD, cD, cD, cD] f ar r q (q + 6) (sX7_readsPerson f ar (nI q)) [(q, sX7_personOf (tT f ar r)), (q + 1, tT f ar (r + 1) - 48), (q + 2, tT f ar (r + 2) - 48), (q + 3, tT f ar (r + 3) - 48), (q + 4, tT f ar (r + 4) - 48), (q + 5, tT f ar (r + 5) - 48)] := by
  have h1 : Rd [cP] f ar r q (q + 1) (sX7_readsKind f ar (nI q) (sX7_personOf (sX7_next f ar))) [(q, sX7_personOf (tT f ar r))] := Rd_K h (by omega) (nI_clamp (by omega))
  have h2 := Rd.app (l2 := lsD 5) (hi := q + 6) (Y := itX7_readsPerson (nI q) 5 1 (sX7_readsKind f ar (nI q) (sX7_personOf (sX7_next f ar))).2.1 (sX7_readsKind f ar (nI q) (sX7_personOf (sX7_next f ar))).2.2) (v2 := vsP (tT f ar) (r + 1) (q + 1) 5) h1 (fun h18 hT => by
      have ih := Rd_it 5 1 (r + 1) q _ (sX7_readsKind f ar (nI q) (sX7_personOf (sX7_next f ar))).2.2 h18 (by omega) (by omega)
      rw [hT] at ih
      exact ih) (by omega) (by omega)
  refine Rd.congr (X := if (sX7_readsKind f ar (nI q) (sX7_personOf (sX7_next f ar))).1 = true then itX7_readsPerson (nI q) 5 1 (sX7_readsKind f ar (nI q) (sX7_personOf (sX7_next f ar))).2.1 (sX7_readsKind f ar (nI q) (sX7_personOf (sX7_next f ar))).2.2 else (false, (sX7_readsKind f ar (nI q) (sX7_personOf (sX7_next f ar))).2.1, (sX7_readsKind f ar (nI q) (sX7_personOf (sX7_next f ar))).2.2)) h2 ?_
  unfold sX7_readsPerson
  by_cases c : (sX7_readsKind f ar (nI q) (sX7_personOf (sX7_next f ar))).1 = true
  · rw [if_pos c]
  · rw [if_neg c]
def shA (b : Int32) : List (Int32 → Bool) := if b = 100 then [cK, cS, cD] else if b = 112 then [cP, cD, cD, cD, cD, cD] else if b = 114 then [cR, cD, cD, cD] else if b = 115 then [cD, cS, cD, cD] else if b = 119 then [cS, cD, cD] else [cD, cD]
def vsA (b : Int32) (T : Nat → Int32) (r q : Nat) : List (Nat × Int32) := if b = 100 then [(q, sX7_driftOf (T r)), (q + 1, sgn T (r + 1) (T (r + 2) - 48))] else if b = 112 then [(q, sX7_personOf (T r)), (q + 1, T (r + 1) - 48), (q + 2, T (r + 2) - 48), (q + 3, T (r + 3) - 48), (q + 4, T (r + 4) - 48), (q + 5, T (r + 5) - 48)] else if b = 114 then [(q, sX7_ruleOf (T r)), (q + 1, two T (r + 1)), (q + 2, T (r + 3) - 48)] else if b = 115 then [(q, T r - 48), (q + 1, sgn T (r + 1) (two T (r + 2)))] else if b = 119 then [(q, sgn T r (two T (r + 1)))] else [(q, two T r)]
theorem q_1 {q : Nat} (h : q < 900) : (nI q + 1).toNatClampNeg = q + 1 := pa_cl (a := 1) (by omega)
theorem q_2 {q : Nat} (h : q < 900) : (nI q + 2).toNatClampNeg = q + 2 := pa_cl (a := 2) (by omega)
theorem e3_ {X : Bool × (Nat → Int32) × (Nat → Nat → Int32)} : (decide (X.1 = true), X.2.1, X.2.2) = X := by rw [dec_b]
theorem Rd_A {f : Nat → Int32} {ar : Nat → Nat → Int32} {r q : Nat} (b : Int32) (h : f 18 = nI r) (hr : r < 800) (hq : q < 800) : Rd (shA b) f ar r q (q + 6) (sX7_readsAll f ar b (nI q)) (vsA b (tT f ar) r q) := by
  unfold shA vsA sX7_readsAll
  by_cases c1 : b = 100
  · rw [if_pos c1, if_pos c1, if_pos c1]
    have h1 : Rd [cK] f ar r q (q + 1) (sX7_readsKind f ar (nI q) (sX7_driftOf (sX7_next f ar))) [(q, sX7_driftOf (tT f ar r))] := Rd_K h (by omega) (nI_clamp (by omega))
    generalize sX7_readsKind f ar (nI q) (sX7_driftOf (sX7_next f ar)) = X at h1 ⊢
    rw [e3_]
    exact Rd.app (l2 := [cS, cD]) (v2 := [(q + 1, sgn (tT f ar) (r + 1) (tT f ar (r + 2) - 48))]) h1 (fun h18 hT => (hT ▸ Rd_S1 (ar := X.2.2) h18 (by omega) (q_1 (by omega)) : Rd [cS, cD] X.2.1 X.2.2 (r + 1) (q + 1) (q + 1 + 1) (sX7_readsSigned X.2.1 X.2.2 (nI q + 1) 1) _).wide (Nat.le_refl _) (by omega)) (by omega) (by omega)
  rw [if_neg c1, if_neg c1, if_neg c1]
  by_cases c2 : b = 112
  · rw [if_pos c2, if_pos c2, if_pos c2]
    exact Rd_P h (by omega) (by omega)
  rw [if_neg c2, if_neg c2, if_neg c2]
  by_cases c3 : b = 114
  · rw [if_pos c3, if_pos c3, if_pos c3]
    have h1 : Rd [cR] f ar r q (q + 1) (sX7_readsKind f ar (nI q) (sX7_ruleOf (sX7_next f ar))) [(q, sX7_ruleOf (tT f ar r))] := Rd_K h (by omega) (nI_clamp (by omega))
    generalize sX7_readsKind f ar (nI q) (sX7_ruleOf (sX7_next f ar)) = X at h1 ⊢
    rw [e3_]
    exact Rd.app (l2 := [cD, cD] ++ [cD]) (v2 := [(q + 1, two (tT f ar) (r + 1))] ++ [(q + 2, tT f ar (r + 3) - 48)]) h1 (fun h18 hT => (Rd.app (m := q + 1 + 1) (hT ▸ Rd_2 (ar := X.2.2) h18 (by omega) (q_1 (by omega)) : Rd [cD, cD] X.2.1 X.2.2 (r + 1) (q + 1) (q + 1 + 1) (sX7_readsDigits X.2.1 X.2.2 (nI q + 1) 2) [(q + 1, two (tT f ar) (r + 1))]) (fun h19 hT2 => ((hT2.trans hT) ▸ Rd_1 (ar := (sX7_readsDigits X.2.1 X.2.2 (nI q + 1) 2).2.2) h19 (by omega) (q_2 (by omega)) : Rd [cD] (sX7_readsDigits X.2.1 X.2.2 (nI q + 1) 2).2.1 (sX7_readsDigits X.2.1 X.2.2 (nI q + 1) 2).2.2 (r + 1 + 2) (q + 2) (q + 2 + 1) (sX7_readsDigits (sX7_readsDigits X.2.1 X.2.2 (nI q + 1) 2).2.1 (sX7_readsDigits X.2.1 X.2.2 (nI q + 1) 2).2.2 (nI q + 2) 1) _).wide (Nat.le_refl _) (show q + 2 + 1 ≤ q + 6 by omega)) (by omega) (by omega))) (by omega) (by omega)
  rw [if_neg c3, if_neg c3, if_neg c3]
  by_cases c4 : b = 115
  · rw [if_pos c4, if_pos c4, if_pos c4]
    have h1 : Rd [cD] f ar r q (q + 1) (sX7_readsDigits f ar (nI q) 1) [(q, tT f ar r - 48)] := Rd_1 h (by omega) (nI_clamp (by omega))
    generalize sX7_readsDigits f ar (nI q) 1 = X at h1 ⊢
    rw [e3_]
    exact Rd.app (l2 := [cS, cD, cD]) (v2 := [(q + 1, sgn (tT f ar) (r + 1) (two (tT f ar) (r + 2)))]) h1 (fun h18 hT => (hT ▸ Rd_S2 (ar := X.2.2) h18 (by omega) (q_1 (by omega)) : Rd [cS, cD, cD] X.2.1 X.2.2 (r + 1) (q + 1) (q + 1 + 1) (sX7_readsSigned X.2.1 X.2.2 (nI q + 1) 2) _).wide (Nat.le_refl _) (by omega)) (by omega) (by omega)
  rw [if_neg c4, if_neg c4, if_neg c4]
  by_cases c5 : b = 119
  · rw [if_pos c5, if_pos c5, if_pos c5]
    exact (Rd_S2 h (by omega) (nI_clamp (by omega))).wide (Nat.le_refl _) (by omega)
  rw [if_neg c5, if_neg c5, if_neg c5]
  exact (Rd_2 h (by omega) (nI_clamp (by omega))).wide (Nat.le_refl _) (by omega)
theorem shA_len (b : Int32) : (shA b).length ≤ 6 := by
  unfold shA
  repeat' split
  all_goals decide
