def itG {R S : Type} (ex : Nat → S → R) (st : Nat → S → R ⊕ S) : Nat → Nat → S → R
  | 0, a, s => ex a s
  | j + 1, a, s => match st a s with
    | .inl r => r
    | .inr s1 => itG ex st j (a + 1) s1
theorem itG_r {R S : Type} {ex : Nat → S → R} {st : Nat → S → R ⊕ S} {j a : Nat} {s : S} {r : R} (e : st a s = .inl r) : itG ex st (j + 1) a s = r := by
  simp only [itG, e]
theorem itG_n {R S : Type} {ex : Nat → S → R} {st : Nat → S → R ⊕ S} {j a : Nat} {s s1 : S} (e : st a s = .inr s1) : itG ex st (j + 1) a s = itG ex st j (a + 1) s1 := by
  simp only [itG, e]
theorem vhi2 {x : Int32} {y z : Int32} (h : ¬ y < x) (hz : y < z) : ¬ z ≤ x := by
  rw [Int32.lt_iff_toInt_lt] at h hz
  rw [Int32.le_iff_toInt_le]
  omega
theorem vhi3 {x : Int32} {y z : Int32} (h : x ≤ y) (hz : y < z) : ¬ z ≤ x := by
  rw [Int32.lt_iff_toInt_lt] at hz
  rw [Int32.le_iff_toInt_le] at h ⊢
  omega
theorem vin6 {x : Int32} (h0 : 0 ≤ x) (h1 : ¬ 6 ≤ x) : vp_in x 6 := vinN (by decide) h0 h1
theorem i_s1 {v : Int32} (h : v.toInt < 2 ^ 30) : (v + 1).toInt = v.toInt + 1 := by
  have h1 := v.le_toInt
  rw [Int32.toInt_add, show (1 : Int32).toInt = 1 by decide]
  exact Int.bmod_eq_of_le (by omega) (by omega)
def exX6_minutesHeld  (a : Nat) (m : zP) : Int32 × zP := (240, m)
def stX6_minutesHeld  (a : Nat) (m : zP) : (Int32 × zP) ⊕ (zP) := if (sX2_isOffEither ((upd (sX2_driftOnce m).2.1 8 (((sX2_driftOnce m).2.1 8) + 1)), (sX2_driftOnce m).2.2)) = true then .inl (nI a, ((upd (sX2_driftOnce m).2.1 8 (((sX2_driftOnce m).2.1 8) + 1)), (sX2_driftOnce m).2.2)) else .inr ((upd (sX2_driftOnce m).2.1 8 (((sX2_driftOnce m).2.1 8) + 1)), (sX2_driftOnce m).2.2)
def itX6_minutesHeld  (j a : Nat) (m : zP) : Int32 × zP := itG (fun a (s : zP) => exX6_minutesHeld  a s) (fun a (s : zP) => stX6_minutesHeld  a s) j a m
theorem itX6_minutesHeld_r  {j a : Nat} {m : zP} {r : Int32 × zP} (e : stX6_minutesHeld  a m = .inl r) : (itX6_minutesHeld  (j + 1) a m) = r := itG_r (st := fun a (s : zP) => stX6_minutesHeld  a s) (s := m) e
theorem itX6_minutesHeld_n  {j a : Nat} {m : zP} {s0_ : zP} (e : stX6_minutesHeld  a m = .inr s0_) : (itX6_minutesHeld  (j + 1) a m) = (itX6_minutesHeld  j (a + 1) s0_) := itG_n (st := fun a (s : zP) => stX6_minutesHeld  a s) (s := m) (s1 := s0_) e
set_option maxRecDepth 20000 in
theorem lpX6_minutesHeld {G : zG} {h2 : List va_E} {n i : zP} {cf : Nat → Int32} {ca : Nat → Nat → Int32} {v : Int32} : ∀ (j a : Nat) (m : zP), a + j = 240 → R G mX6_minutesHeld 14 [(0, .ref 0), (1, .int v), (2, .int (nI a))] [] (hC G n m i cf ca, h2) (fun r0 h0 => r0 = some (.int ((itX6_minutesHeld  j a m).1)) ∧ h0 = (hC G n ((itX6_minutesHeld  j a m).2) i cf ca, h2)) := by
  intro j
  induction j with
  | zero =>
    intro a m hj
    have hc : (240 : Int32) ≤ nI a := by show nI 240 ≤ nI a; exact nI_le (by omega) (by omega)
    refine R_iload_n 15 dX6_minutesHeld_14 rfl rfl ?_
    refine R_sipush 18 dX6_minutesHeld_15 rfl (v := 240) (by decide) ?_
    refine R_icmp_ge 21 60 dX6_minutesHeld_18 rfl (by decide) (fun _ => ?_) (fun c => absurd hc c)
    refine R_sipush 63 dX6_minutesHeld_60 rfl (v := 240) (by decide) ?_
    refine R_ireturn dX6_minutesHeld_63 rfl rfl ?_
    have e : (itX6_minutesHeld  0 a m) = (240, m) := rfl
    rw [e]; exact ⟨rfl, rfl⟩
  | succ j ih =>
    intro a m hj
    have hc : ¬ (240 : Int32) ≤ nI a := by show ¬ nI 240 ≤ nI a; exact nI_ge (by omega) (by omega)
    refine R_iload_n 15 dX6_minutesHeld_14 rfl rfl ?_
    refine R_sipush 18 dX6_minutesHeld_15 rfl (v := 240) (by decide) ?_
    refine R_icmp_ge 21 60 dX6_minutesHeld_18 rfl (by decide) (fun c => absurd c hc) (fun _ => ?_)
    refine R_aload_n 22 dX6_minutesHeld_21 rfl rfl ?_
    refine R_get 25 dX6_minutesHeld_22 rfl fX6_16 rfl (v := .ref 10) rfl ?_
    refine R_callVi 28 eX2_driftOnce_10 dX6_minutesHeld_25 rfl kX2_driftOnce lX6_216 rfl rfl rfl rfl rfl rfl rfl ?_
    refine R_pop 29 dX6_minutesHeld_28 rfl rfl ?_
    refine R_aload_n 30 dX6_minutesHeld_29 rfl rfl ?_
    refine R_get 33 dX6_minutesHeld_30 rfl fX6_16 rfl (v := .ref 10) rfl ?_
    refine R_dup 34 dX6_minutesHeld_33 rfl rfl ?_
    refine R_get 37 dX6_minutesHeld_34 rfl fX6_107 rfl (v := .int ((sX2_driftOnce m).2.1 8)) rfl ?_
    refine R_iconst 38 dX6_minutesHeld_37 rfl (v := 1) (by decide) ?_
    refine R_iadd 39 dX6_minutesHeld_38 rfl ?_
    refine R_nm (fun z1_ hz1_ => ?_)
    refine R_put 42 dX6_minutesHeld_39 rfl wX6_107 rfl rfl rfl rfl (h2 := (hC G n ((upd (sX2_driftOnce m).2.1 8 z1_), (sX2_driftOnce m).2.2) i cf ca, h2)) rfl ?_
    refine R_aload_n 43 dX6_minutesHeld_42 rfl rfl ?_
    refine R_get 46 dX6_minutesHeld_43 rfl fX6_16 rfl (v := .ref 10) rfl ?_
    refine R_callVi 49 eX2_isOffEither_10 dX6_minutesHeld_46 rfl kX2_isOffEither lX6_219 rfl rfl rfl rfl rfl rfl rfl ?_
    refine R_ifb_eq 52 54 dX6_minutesHeld_49 rfl (by decide) (fun c1 => ?_) (fun c1 => ?_)
    ·
      refine R_iinc 57 dX6_minutesHeld_54 rfl rfl (v := (nI (a + 1))) (nI_1 a) rfl (by decide) (loc' := [(0, .ref 0), (1, .int v), (2, .int (nI (a + 1)))]) rfl ?_
      refine R_goto 14 dX6_minutesHeld_57 (by decide) ?_
      subst hz1_
      refine R_pick [0, 1, 2] rfl ?_
      have e : stX6_minutesHeld  a m = .inr ((upd (sX2_driftOnce m).2.1 8 (((sX2_driftOnce m).2.1 8) + 1)), (sX2_driftOnce m).2.2) := by unfold stX6_minutesHeld; rw [if_neg c1]
      have e2 : (itX6_minutesHeld  (j + 1) a m) = (itX6_minutesHeld  j (a + 1) ((upd (sX2_driftOnce m).2.1 8 (((sX2_driftOnce m).2.1 8) + 1)), (sX2_driftOnce m).2.2)) := itX6_minutesHeld_n e
      rw [e2]; exact ih (a + 1) ((upd (sX2_driftOnce m).2.1 8 (((sX2_driftOnce m).2.1 8) + 1)), (sX2_driftOnce m).2.2) (by omega)
    ·
      refine R_iload_n 53 dX6_minutesHeld_52 rfl rfl ?_
      refine R_ireturn dX6_minutesHeld_53 rfl rfl ?_
      subst hz1_
      have e : stX6_minutesHeld  a m = .inl (nI a, ((upd (sX2_driftOnce m).2.1 8 (((sX2_driftOnce m).2.1 8) + 1)), (sX2_driftOnce m).2.2)) := by unfold stX6_minutesHeld; rw [if_pos c1]
      have e2 : (itX6_minutesHeld  (j + 1) a m) = (nI a, ((upd (sX2_driftOnce m).2.1 8 (((sX2_driftOnce m).2.1 8) + 1)), (sX2_driftOnce m).2.2)) := itX6_minutesHeld_r e
      rw [e2]; exact ⟨rfl, rfl⟩
def sX6_minutesHeld (n : zP) (cf : Nat → Int32) (ca : Nat → Nat → Int32) (v : Int32) : Int32 × zP × (Nat → Int32) × (Nat → Nat → Int32) := ((itX6_minutesHeld  240 0 ((upd (sX6_think n cf ca).1.1 0 v), (sX6_think n cf ca).1.2)).1, (itX6_minutesHeld  240 0 ((upd (sX6_think n cf ca).1.1 0 v), (sX6_think n cf ca).1.2)).2, (sX6_think n cf ca).2.1, (sX6_think n cf ca).2.2)
set_option maxRecDepth 20000 in
theorem eX6_minutesHeld_0 {G : zG} {h2 : List va_E} {n m i : zP} {cf : Nat → Int32} {ca : Nat → Nat → Int32} {v : Int32} : EvF G mX6_minutesHeld [.ref 0, .int v] (hC G n m i cf ca, h2) (some (.int ((sX6_minutesHeld n cf ca v).1))) (hC G n ((sX6_minutesHeld n cf ca v).2.1) i ((sX6_minutesHeld n cf ca v).2.2.1) ((sX6_minutesHeld n cf ca v).2.2.2), h2) := by
  generalize hs : (sX6_minutesHeld n cf ca v) = zz
  refine EvF.of pnX6 rfl ?_
  refine R_aload_n 1 dX6_minutesHeld_0 rfl rfl ?_
  refine R_callVv 4 eX6_think_0 dX6_minutesHeld_1 rfl kX6_think lX6_120 rfl rfl rfl rfl rfl rfl rfl ?_
  refine R_aload_n 5 dX6_minutesHeld_4 rfl rfl ?_
  refine R_get 8 dX6_minutesHeld_5 rfl fX6_16 rfl (v := .ref 10) rfl ?_
  refine R_iload_n 9 dX6_minutesHeld_8 rfl rfl ?_
  refine R_put 12 dX6_minutesHeld_9 rfl wX6_128 rfl rfl rfl rfl (h2 := (hC G n ((upd (sX6_think n cf ca).1.1 0 v), (sX6_think n cf ca).1.2) i ((sX6_think n cf ca).2.1) ((sX6_think n cf ca).2.2), h2)) rfl ?_
  refine R_iconst 13 dX6_minutesHeld_12 rfl (v := 0) (by decide) ?_
  refine R_istore_n 14 dX6_minutesHeld_13 rfl rfl (by decide) (loc' := [(0, .ref 0), (1, .int v), (2, .int 0)]) rfl ?_
  refine R_pick [0, 1, 2] rfl ?_
  have e : zz = ((itX6_minutesHeld  240 0 ((upd (sX6_think n cf ca).1.1 0 v), (sX6_think n cf ca).1.2)).1, (itX6_minutesHeld  240 0 ((upd (sX6_think n cf ca).1.1 0 v), (sX6_think n cf ca).1.2)).2, (sX6_think n cf ca).2.1, (sX6_think n cf ca).2.2) := by rw [← hs]; unfold sX6_minutesHeld; rfl
  rw [pr1 e, pr1 (pr2 e), pr1 (pr2 (pr2 e)), pr2 (pr2 (pr2 e))]; exact lpX6_minutesHeld 240 0 ((upd (sX6_think n cf ca).1.1 0 v), (sX6_think n cf ca).1.2) rfl
def exX6_setAt (n : zP) (a : Nat) (m : zP) (cf : Nat → Int32) (ca : Nat → Nat → Int32) (lo : Int32) (fr : Int32) (v : Int32) : Int32 × zP × (Nat → Int32) × (Nat → Nat → Int32) := (fr + 20, m, cf, ca)
def stX6_setAt (n : zP) (a : Nat) (m : zP) (cf : Nat → Int32) (ca : Nat → Nat → Int32) (lo : Int32) (fr : Int32) (v : Int32) : zP × (Nat → Int32) × (Nat → Nat → Int32) × Int32 × Int32 × Int32 := if ((sX6_minutesHeld n cf ca v).1) ≤ lo then ((sX6_minutesHeld n cf ca v).2.1, (sX6_minutesHeld n cf ca v).2.2.1, (sX6_minutesHeld n cf ca v).2.2.2, lo, fr, v + 1) else ((sX6_minutesHeld n cf ca v).2.1, (sX6_minutesHeld n cf ca v).2.2.1, (sX6_minutesHeld n cf ca v).2.2.2, (sX6_minutesHeld n cf ca v).1, v, v + 1)
def itX6_setAt (n : zP) : Nat → Nat → zP → (Nat → Int32) → (Nat → Nat → Int32) → Int32 → Int32 → Int32 → Int32 × zP × (Nat → Int32) × (Nat → Nat → Int32)
  | 0, a, m, cf, ca, lo, fr, v => exX6_setAt n a m cf ca lo fr v
  | j + 1, a, m, cf, ca, lo, fr, v => itX6_setAt n j (a + 1) ((stX6_setAt n a m cf ca lo fr v).1) ((stX6_setAt n a m cf ca lo fr v).2.1) ((stX6_setAt n a m cf ca lo fr v).2.2.1) ((stX6_setAt n a m cf ca lo fr v).2.2.2.1) ((stX6_setAt n a m cf ca lo fr v).2.2.2.2.1) ((stX6_setAt n a m cf ca lo fr v).2.2.2.2.2)
theorem itX6_setAt_n {n : zP} {j a : Nat} {m : zP} {cf : Nat → Int32} {ca : Nat → Nat → Int32} {lo : Int32} {fr : Int32} {v : Int32} {s0_ : zP} {s1_ : Nat → Int32} {s2_ : Nat → Nat → Int32} {s3_ : Int32} {s4_ : Int32} {s5_ : Int32} (e : stX6_setAt n a m cf ca lo fr v = (s0_, s1_, s2_, s3_, s4_, s5_)) : (itX6_setAt n (j + 1) a m cf ca lo fr v) = (itX6_setAt n j (a + 1) s0_ s1_ s2_ s3_ s4_ s5_) := by simp only [itX6_setAt.eq_2, e]
set_option maxRecDepth 20000 in
theorem lpX6_setAt {G : zG} {h2 : List va_E} {n i : zP} : ∀ (j a : Nat) (m : zP) (cf : Nat → Int32) (ca : Nat → Nat → Int32) (lo : Int32) (fr : Int32) (v : Int32), (a + j = 41 ∧ v.toInt = a - 20) → R G mX6_setAt 8 [(0, .ref 0), (1, .int lo), (2, .int fr), (3, .int v)] [] (hC G n m i cf ca, h2) (fun r0 h0 => r0 = some (.int ((itX6_setAt n j a m cf ca lo fr v).1)) ∧ h0 = (hC G n ((itX6_setAt n j a m cf ca lo fr v).2.1) i ((itX6_setAt n j a m cf ca lo fr v).2.2.1) ((itX6_setAt n j a m cf ca lo fr v).2.2.2), h2)) := by
  intro j
  induction j with
  | zero =>
    intro a m cf ca lo fr v hj
    have hc : (20 : Int32) < v := by rw [Int32.lt_iff_toInt_lt, hj.2, show (20 : Int32).toInt = 20 by decide]; omega
    refine R_iload_n 9 dX6_setAt_8 rfl rfl ?_
    refine R_bipush 11 dX6_setAt_9 rfl (v := 20) (by decide) ?_
    refine R_icmp_gt 14 38 dX6_setAt_11 rfl (by decide) (fun _ => ?_) (fun c => absurd hc c)
    refine R_iload_n 39 dX6_setAt_38 rfl rfl ?_
    refine R_bipush 41 dX6_setAt_39 rfl (v := 20) (by decide) ?_
    refine R_iadd 42 dX6_setAt_41 rfl ?_
    refine R_ireturn dX6_setAt_42 rfl rfl ?_
    have e : (itX6_setAt n 0 a m cf ca lo fr v) = (fr + 20, m, cf, ca) := rfl
    rw [e]; exact ⟨rfl, rfl⟩
  | succ j ih =>
    intro a m cf ca lo fr v hj
    have hc : ¬ (20 : Int32) < v := by rw [Int32.lt_iff_toInt_lt, hj.2, show (20 : Int32).toInt = 20 by decide]; omega
    refine R_iload_n 9 dX6_setAt_8 rfl rfl ?_
    refine R_bipush 11 dX6_setAt_9 rfl (v := 20) (by decide) ?_
    refine R_icmp_gt 14 38 dX6_setAt_11 rfl (by decide) (fun c => absurd c hc) (fun _ => ?_)
    refine R_aload_n 15 dX6_setAt_14 rfl rfl ?_
    refine R_iload_n 16 dX6_setAt_15 rfl rfl ?_
    refine R_callVi 19 eX6_minutesHeld_0 dX6_setAt_16 rfl kX6_minutesHeld lX6_144 rfl rfl rfl rfl rfl rfl rfl ?_
    refine R_istore 21 dX6_setAt_19 rfl rfl (by decide) (loc' := [(0, .ref 0), (1, .int lo), (2, .int fr), (3, .int v), (4, .int ((sX6_minutesHeld n cf ca v).1))]) rfl ?_
    refine R_iload 23 dX6_setAt_21 rfl rfl ?_
    refine R_iload_n 24 dX6_setAt_23 rfl rfl ?_
    refine R_icmp_le 27 32 dX6_setAt_24 rfl (by decide) (fun c1 => ?_) (fun c1 => ?_)
    ·
      refine R_iinc 35 dX6_setAt_32 rfl rfl (v := (v + 1)) rfl rfl (by decide) (loc' := [(0, .ref 0), (1, .int lo), (2, .int fr), (3, .int (v + 1)), (4, .int ((sX6_minutesHeld n cf ca v).1))]) rfl ?_
      refine R_goto 8 dX6_setAt_35 (by decide) ?_
      refine R_pick [0, 1, 2, 3] rfl ?_
      have e : stX6_setAt n a m cf ca lo fr v = ((sX6_minutesHeld n cf ca v).2.1, (sX6_minutesHeld n cf ca v).2.2.1, (sX6_minutesHeld n cf ca v).2.2.2, lo, fr, v + 1) := by unfold stX6_setAt; rw [if_pos c1]
      have e2 : (itX6_setAt n (j + 1) a m cf ca lo fr v) = (itX6_setAt n j (a + 1) ((sX6_minutesHeld n cf ca v).2.1) ((sX6_minutesHeld n cf ca v).2.2.1) ((sX6_minutesHeld n cf ca v).2.2.2) lo fr (v + 1)) := itX6_setAt_n e
      rw [e2]; exact ih (a + 1) ((sX6_minutesHeld n cf ca v).2.1) ((sX6_minutesHeld n cf ca v).2.2.1) ((sX6_minutesHeld n cf ca v).2.2.2) lo fr (v + 1) ⟨by omega, by rw [i_s1 (by omega)]; omega⟩
    ·
      refine R_iload 29 dX6_setAt_27 rfl rfl ?_
      refine R_istore_n 30 dX6_setAt_29 rfl rfl (by decide) (loc' := [(0, .ref 0), (1, .int ((sX6_minutesHeld n cf ca v).1)), (2, .int fr), (3, .int v), (4, .int ((sX6_minutesHeld n cf ca v).1))]) rfl ?_
      refine R_iload_n 31 dX6_setAt_30 rfl rfl ?_
      refine R_istore_n 32 dX6_setAt_31 rfl rfl (by decide) (loc' := [(0, .ref 0), (1, .int ((sX6_minutesHeld n cf ca v).1)), (2, .int v), (3, .int v), (4, .int ((sX6_minutesHeld n cf ca v).1))]) rfl ?_
      refine R_iinc 35 dX6_setAt_32 rfl rfl (v := (v + 1)) rfl rfl (by decide) (loc' := [(0, .ref 0), (1, .int ((sX6_minutesHeld n cf ca v).1)), (2, .int v), (3, .int (v + 1)), (4, .int ((sX6_minutesHeld n cf ca v).1))]) rfl ?_
      refine R_goto 8 dX6_setAt_35 (by decide) ?_
      refine R_pick [0, 1, 2, 3] rfl ?_
      have e : stX6_setAt n a m cf ca lo fr v = ((sX6_minutesHeld n cf ca v).2.1, (sX6_minutesHeld n cf ca v).2.2.1, (sX6_minutesHeld n cf ca v).2.2.2, (sX6_minutesHeld n cf ca v).1, v, v + 1) := by unfold stX6_setAt; rw [if_neg c1]
      have e2 : (itX6_setAt n (j + 1) a m cf ca lo fr v) = (itX6_setAt n j (a + 1) ((sX6_minutesHeld n cf ca v).2.1) ((sX6_minutesHeld n cf ca v).2.2.1) ((sX6_minutesHeld n cf ca v).2.2.2) ((sX6_minutesHeld n cf ca v).1) v (v + 1)) := itX6_setAt_n e
      rw [e2]; exact ih (a + 1) ((sX6_minutesHeld n cf ca v).2.1) ((sX6_minutesHeld n cf ca v).2.2.1) ((sX6_minutesHeld n cf ca v).2.2.2) ((sX6_minutesHeld n cf ca v).1) v (v + 1) ⟨by omega, by rw [i_s1 (by omega)]; omega⟩
def sX6_setAt (n : zP) (m : zP) (cf : Nat → Int32) (ca : Nat → Nat → Int32) : Int32 × zP × (Nat → Int32) × (Nat → Nat → Int32) := ((itX6_setAt n 41 0 m cf ca (-1) (-20) (-20)).1, (itX6_setAt n 41 0 m cf ca (-1) (-20) (-20)).2.1, (itX6_setAt n 41 0 m cf ca (-1) (-20) (-20)).2.2.1, (itX6_setAt n 41 0 m cf ca (-1) (-20) (-20)).2.2.2)
set_option maxRecDepth 20000 in
theorem eX6_setAt_0 {G : zG} {h2 : List va_E} {n m i : zP} {cf : Nat → Int32} {ca : Nat → Nat → Int32} : EvF G mX6_setAt [.ref 0] (hC G n m i cf ca, h2) (some (.int ((sX6_setAt n m cf ca).1))) (hC G n ((sX6_setAt n m cf ca).2.1) i ((sX6_setAt n m cf ca).2.2.1) ((sX6_setAt n m cf ca).2.2.2), h2) := by
  generalize hs : (sX6_setAt n m cf ca) = zz
  refine EvF.of pnX6 rfl ?_
  refine R_iconst 1 dX6_setAt_0 rfl (v := (-1)) (by decide) ?_
  refine R_istore_n 2 dX6_setAt_1 rfl rfl (by decide) (loc' := [(0, .ref 0), (1, .int (-1))]) rfl ?_
  refine R_bipush 4 dX6_setAt_2 rfl (v := (-20)) (by decide) ?_
  refine R_istore_n 5 dX6_setAt_4 rfl rfl (by decide) (loc' := [(0, .ref 0), (1, .int (-1)), (2, .int (-20))]) rfl ?_
  refine R_bipush 7 dX6_setAt_5 rfl (v := (-20)) (by decide) ?_
  refine R_istore_n 8 dX6_setAt_7 rfl rfl (by decide) (loc' := [(0, .ref 0), (1, .int (-1)), (2, .int (-20)), (3, .int (-20))]) rfl ?_
  refine R_pick [0, 1, 2, 3] rfl ?_
  have e : zz = ((itX6_setAt n 41 0 m cf ca (-1) (-20) (-20)).1, (itX6_setAt n 41 0 m cf ca (-1) (-20) (-20)).2.1, (itX6_setAt n 41 0 m cf ca (-1) (-20) (-20)).2.2.1, (itX6_setAt n 41 0 m cf ca (-1) (-20) (-20)).2.2.2) := by rw [← hs]; unfold sX6_setAt; rfl
  rw [pr1 e, pr1 (pr2 e), pr1 (pr2 (pr2 e)), pr2 (pr2 (pr2 e))]; exact lpX6_setAt 41 0 m cf ca (-1) (-20) (-20) ⟨rfl, by decide⟩
def exX6_steadyFrom (n : zP) (a : Nat) (st : Int32) : Int32 := (-9)
def stX6_steadyFrom (n : zP) (a : Nat) (st : Int32) : (Int32) ⊕ (Int32) := if (if (sX1_amountIn (n.1 9) (n.1 10) ((n.1 8) + (nI a))) = 0 then st + 1 else 0) = 10 then .inl (((nI a) - 10) + 1) else .inr (if (sX1_amountIn (n.1 9) (n.1 10) ((n.1 8) + (nI a))) = 0 then st + 1 else 0)
def itX6_steadyFrom (n : zP) (j a : Nat) (st : Int32) : Int32 := itG (fun a (s : Int32) => exX6_steadyFrom n a s) (fun a (s : Int32) => stX6_steadyFrom n a s) j a st
theorem itX6_steadyFrom_r {n : zP} {j a : Nat} {st : Int32} {r : Int32} (e : stX6_steadyFrom n a st = .inl r) : (itX6_steadyFrom n (j + 1) a st) = r := itG_r (st := fun a (s : Int32) => stX6_steadyFrom n a s) (s := st) e
theorem itX6_steadyFrom_n {n : zP} {j a : Nat} {st : Int32} {s0_ : Int32} (e : stX6_steadyFrom n a st = .inr s0_) : (itX6_steadyFrom n (j + 1) a st) = (itX6_steadyFrom n j (a + 1) s0_) := itG_n (st := fun a (s : Int32) => stX6_steadyFrom n a s) (s := st) (s1 := s0_) e
set_option maxRecDepth 20000 in
theorem lpX6_steadyFrom {G : zG} {h2 : List va_E} {n m i : zP} {cf : Nat → Int32} {ca : Nat → Nat → Int32} : ∀ (j a : Nat) (st : Int32), a + j = 250 → R G mX6_steadyFrom 4 [(0, .ref 0), (1, .int st), (2, .int (nI a))] [] (hC G n m i cf ca, h2) (fun r0 h0 => r0 = some (.int (itX6_steadyFrom n j a st)) ∧ h0 = (hC G n m i cf ca, h2)) := by
  intro j
  induction j with
  | zero =>
    intro a st hj
    have hc : (250 : Int32) ≤ nI a := by show nI 250 ≤ nI a; exact nI_le (by omega) (by omega)
    refine R_iload_n 5 dX6_steadyFrom_4 rfl rfl ?_
    refine R_sipush 8 dX6_steadyFrom_5 rfl (v := 250) (by decide) ?_
    refine R_icmp_ge 11 60 dX6_steadyFrom_8 rfl (by decide) (fun _ => ?_) (fun c => absurd hc c)
    refine R_bipush 62 dX6_steadyFrom_60 rfl (v := (-9)) (by decide) ?_
    refine R_ireturn dX6_steadyFrom_62 rfl rfl ?_
    have e : (itX6_steadyFrom n 0 a st) = (-9) := rfl
    rw [e]; exact ⟨rfl, rfl⟩
  | succ j ih =>
    intro a st hj
    have hc : ¬ (250 : Int32) ≤ nI a := by show ¬ nI 250 ≤ nI a; exact nI_ge (by omega) (by omega)
    refine R_iload_n 5 dX6_steadyFrom_4 rfl rfl ?_
    refine R_sipush 8 dX6_steadyFrom_5 rfl (v := 250) (by decide) ?_
    refine R_icmp_ge 11 60 dX6_steadyFrom_8 rfl (by decide) (fun c => absurd c hc) (fun _ => ?_)
    refine R_aload_n 12 dX6_steadyFrom_11 rfl rfl ?_
    refine R_get 15 dX6_steadyFrom_12 rfl fX6_10 rfl (v := .ref 1) rfl ?_
    refine R_get 18 dX6_steadyFrom_15 rfl fX6_98 rfl (v := .ref 2) rfl ?_
    refine R_aload_n 19 dX6_steadyFrom_18 rfl rfl ?_
    refine R_get 22 dX6_steadyFrom_19 rfl fX6_10 rfl (v := .ref 1) rfl ?_
    refine R_get 25 dX6_steadyFrom_22 rfl fX6_107 rfl (v := .int (n.1 8)) rfl ?_
    refine R_iload_n 26 dX6_steadyFrom_25 rfl rfl ?_
    refine R_iadd 27 dX6_steadyFrom_26 rfl ?_
    refine R_callVi 30 (eX1_amountIn (dk := n.1 9) (dr := n.1 10) rfl) dX6_steadyFrom_27 rfl kX1_amountIn lX6_102 rfl rfl rfl rfl rfl rfl rfl ?_
    refine R_cut 40 [(0, .ref 0), (1, .int st), (2, .int (nI a))] (.int (if (sX1_amountIn (n.1 9) (n.1 10) ((n.1 8) + (nI a))) = 0 then st + 1 else 0) :: []) (hC G n m i cf ca, h2) ?_ (fun kj => ?_)
    ·
      refine R_nm (fun z1_ hz1_ => ?_)
      refine R_istore_n 41 dX6_steadyFrom_40 rfl rfl (by decide) (loc' := [(0, .ref 0), (1, .int z1_), (2, .int (nI a))]) rfl ?_
      refine R_iload_n 42 dX6_steadyFrom_41 rfl rfl ?_
      refine R_bipush 44 dX6_steadyFrom_42 rfl (v := 10) (by decide) ?_
      refine R_icmp_ne 47 54 dX6_steadyFrom_44 rfl (by decide) (fun c2 => ?_) (fun c2 => ?_)
      ·
        refine R_iinc 57 dX6_steadyFrom_54 rfl rfl (v := (nI (a + 1))) (nI_1 a) rfl (by decide) (loc' := [(0, .ref 0), (1, .int z1_), (2, .int (nI (a + 1)))]) rfl ?_
        refine R_goto 4 dX6_steadyFrom_57 (by decide) ?_
        subst hz1_
        refine R_pick [0, 1, 2] rfl ?_
        have e : stX6_steadyFrom n a st = .inr (if (sX1_amountIn (n.1 9) (n.1 10) ((n.1 8) + (nI a))) = 0 then st + 1 else 0) := by unfold stX6_steadyFrom; rw [if_neg c2]
        have e2 : (itX6_steadyFrom n (j + 1) a st) = (itX6_steadyFrom n j (a + 1) (if (sX1_amountIn (n.1 9) (n.1 10) ((n.1 8) + (nI a))) = 0 then st + 1 else 0)) := itX6_steadyFrom_n e
        rw [e2]; exact ih (a + 1) (if (sX1_amountIn (n.1 9) (n.1 10) ((n.1 8) + (nI a))) = 0 then st + 1 else 0) (by omega)
      ·
        refine R_iload_n 48 dX6_steadyFrom_47 rfl rfl ?_
        refine R_bipush 50 dX6_steadyFrom_48 rfl (v := 10) (by decide) ?_
        refine R_isub 51 dX6_steadyFrom_50 rfl ?_
        refine R_iconst 52 dX6_steadyFrom_51 rfl (v := 1) (by decide) ?_
        refine R_iadd 53 dX6_steadyFrom_52 rfl ?_
        refine R_ireturn dX6_steadyFrom_53 rfl rfl ?_
        subst hz1_
        have e : stX6_steadyFrom n a st = .inl (((nI a) - 10) + 1) := by unfold stX6_steadyFrom; rw [if_pos c2]
        have e2 : (itX6_steadyFrom n (j + 1) a st) = ((nI a) - 10) + 1 := itX6_steadyFrom_r e
        rw [e2]; exact ⟨rfl, rfl⟩
    refine R_if_ne 33 39 dX6_steadyFrom_30 rfl (by decide) (fun c1 => ?_) (fun c1 => ?_)
    · refine R_iconst 40 dX6_steadyFrom_39 rfl (v := 0) (by decide) ?_
      rw [if_neg c1] at kj; exact kj
    · refine R_iload_n 34 dX6_steadyFrom_33 rfl rfl ?_
      refine R_iconst 35 dX6_steadyFrom_34 rfl (v := 1) (by decide) ?_
      refine R_iadd 36 dX6_steadyFrom_35 rfl ?_
      refine R_goto 40 dX6_steadyFrom_36 (by decide) ?_
      rw [if_pos c1] at kj; exact kj
def sX6_steadyFrom (n : zP) : Int32 := (itX6_steadyFrom n 250 0 0)
set_option maxRecDepth 20000 in
theorem eX6_steadyFrom_0 {G : zG} {h2 : List va_E} {n m i : zP} {cf : Nat → Int32} {ca : Nat → Nat → Int32} : EvF G mX6_steadyFrom [.ref 0] (hC G n m i cf ca, h2) (some (.int (sX6_steadyFrom n))) (hC G n m i cf ca, h2) := by
  generalize hs : (sX6_steadyFrom n) = zz
  refine EvF.of pnX6 rfl ?_
  refine R_iconst 1 dX6_steadyFrom_0 rfl (v := 0) (by decide) ?_
  refine R_istore_n 2 dX6_steadyFrom_1 rfl rfl (by decide) (loc' := [(0, .ref 0), (1, .int 0)]) rfl ?_
  refine R_iconst 3 dX6_steadyFrom_2 rfl (v := 0) (by decide) ?_
  refine R_istore_n 4 dX6_steadyFrom_3 rfl rfl (by decide) (loc' := [(0, .ref 0), (1, .int 0), (2, .int 0)]) rfl ?_
  refine R_pick [0, 1, 2] rfl ?_
  have e : zz = (itX6_steadyFrom n 250 0 0) := by rw [← hs]; unfold sX6_steadyFrom; rfl
  subst e; exact lpX6_steadyFrom 250 0 0 rfl
def exX6_when (y : Int32) (a : Nat) (m : zP) (cf : Nat → Int32) (ca : Nat → Nat → Int32) : Int32 × zP × (Nat → Int32) × (Nat → Nat → Int32) := ((-9), m, cf, ca)
def stX6_when (y : Int32) (a : Nat) (m : zP) (cf : Nat → Int32) (ca : Nat → Nat → Int32) : (Int32 × zP × (Nat → Int32) × (Nat → Nat → Int32)) ⊕ (zP × (Nat → Int32) × (Nat → Nat → Int32)) := if (sX0_allUps ((mpass true 1 (m, cf, ca)).2.2)) ≤ y then .inr ((mpass true 1 (m, cf, ca)).1, (mpass true 1 (m, cf, ca)).2.1, (mpass true 1 (m, cf, ca)).2.2) else .inl (nI a, (mpass true 1 (m, cf, ca)).1, (mpass true 1 (m, cf, ca)).2.1, (mpass true 1 (m, cf, ca)).2.2)
def itX6_when (y : Int32) (j a : Nat) (m : zP) (cf : Nat → Int32) (ca : Nat → Nat → Int32) : Int32 × zP × (Nat → Int32) × (Nat → Nat → Int32) := itG (fun a (s : zP × (Nat → Int32) × (Nat → Nat → Int32)) => exX6_when y a s.1 s.2.1 s.2.2) (fun a (s : zP × (Nat → Int32) × (Nat → Nat → Int32)) => stX6_when y a s.1 s.2.1 s.2.2) j a (m, cf, ca)
theorem itX6_when_r {y : Int32} {j a : Nat} {m : zP} {cf : Nat → Int32} {ca : Nat → Nat → Int32} {r : Int32 × zP × (Nat → Int32) × (Nat → Nat → Int32)} (e : stX6_when y a m cf ca = .inl r) : (itX6_when y (j + 1) a m cf ca) = r := itG_r (st := fun a (s : zP × (Nat → Int32) × (Nat → Nat → Int32)) => stX6_when y a s.1 s.2.1 s.2.2) (s := (m, cf, ca)) e
theorem itX6_when_n {y : Int32} {j a : Nat} {m : zP} {cf : Nat → Int32} {ca : Nat → Nat → Int32} {s0_ : zP} {s1_ : Nat → Int32} {s2_ : Nat → Nat → Int32} (e : stX6_when y a m cf ca = .inr (s0_, s1_, s2_)) : (itX6_when y (j + 1) a m cf ca) = (itX6_when y j (a + 1) s0_ s1_ s2_) := itG_n (st := fun a (s : zP × (Nat → Int32) × (Nat → Nat → Int32)) => stX6_when y a s.1 s.2.1 s.2.2) (s := (m, cf, ca)) (s1 := (s0_, s1_, s2_)) e
set_option maxRecDepth 20000 in
theorem lpX6_when {G : zG} {h2 : List va_E} {n i : zP} {y : Int32} : ∀ (j a : Nat) (m : zP) (cf : Nat → Int32) (ca : Nat → Nat → Int32), a + j = 240 → R G mX6_when 17 [(0, .ref 0), (1, .int y), (2, .int (nI a))] [] (hC G n m i cf ca, h2) (fun r0 h0 => r0 = some (.int ((itX6_when y j a m cf ca).1)) ∧ h0 = (hC G n ((itX6_when y j a m cf ca).2.1) i ((itX6_when y j a m cf ca).2.2.1) ((itX6_when y j a m cf ca).2.2.2), h2)) := by
  intro j
  induction j with
  | zero =>
    intro a m cf ca hj
    have hc : (240 : Int32) ≤ nI a := by show nI 240 ≤ nI a; exact nI_le (by omega) (by omega)
    refine R_iload_n 18 dX6_when_17 rfl rfl ?_
    refine R_sipush 21 dX6_when_18 rfl (v := 240) (by decide) ?_
    refine R_icmp_ge 24 56 dX6_when_21 rfl (by decide) (fun _ => ?_) (fun c => absurd hc c)
    refine R_bipush 58 dX6_when_56 rfl (v := (-9)) (by decide) ?_
    refine R_ireturn dX6_when_58 rfl rfl ?_
    have e : (itX6_when y 0 a m cf ca) = ((-9), m, cf, ca) := rfl
    rw [e]; exact ⟨rfl, rfl⟩
  | succ j ih =>
    intro a m cf ca hj
    have hc : ¬ (240 : Int32) ≤ nI a := by show ¬ nI 240 ≤ nI a; exact nI_ge (by omega) (by omega)
    refine R_iload_n 18 dX6_when_17 rfl rfl ?_
    refine R_sipush 21 dX6_when_18 rfl (v := 240) (by decide) ?_
    refine R_icmp_ge 24 56 dX6_when_21 rfl (by decide) (fun c => absurd c hc) (fun _ => ?_)
    refine R_aload_n 25 dX6_when_24 rfl rfl ?_
    refine R_get 28 dX6_when_25 rfl fX6_16 rfl (v := .ref 10) rfl ?_
    refine R_iconst 29 dX6_when_28 rfl (v := 1) (by decide) ?_
    refine R_iconst 30 dX6_when_29 rfl (v := 1) (by decide) ?_
    refine R_aload_n 31 dX6_when_30 rfl rfl ?_
    refine R_get 34 dX6_when_31 rfl fX6_25 rfl (v := .ref 28) rfl ?_
    refine R_callVv 37 (eX2_passMinutes_10 (mg := true) (x := 1)) dX6_when_34 rfl kX2_passMinutes lX6_113 rfl rfl rfl rfl rfl rfl rfl ?_
    refine R_h (h1 := (hC G n ((mpass true 1 (m, cf, ca)).1) i ((mpass true 1 (m, cf, ca)).2.1) ((mpass true 1 (m, cf, ca)).2.2), h2)) rfl ?_
    refine R_aload_n 38 dX6_when_37 rfl rfl ?_
    refine R_get 41 dX6_when_38 rfl fX6_25 rfl (v := .ref 28) rfl ?_
    refine R_callVi 44 eX0_allUps_28 dX6_when_41 rfl kX0_allUps lX6_117 rfl rfl rfl rfl rfl rfl rfl ?_
    refine R_iload_n 45 dX6_when_44 rfl rfl ?_
    refine R_icmp_le 48 50 dX6_when_45 rfl (by decide) (fun c1 => ?_) (fun c1 => ?_)
    ·
      refine R_iinc 53 dX6_when_50 rfl rfl (v := (nI (a + 1))) (nI_1 a) rfl (by decide) (loc' := [(0, .ref 0), (1, .int y), (2, .int (nI (a + 1)))]) rfl ?_
      refine R_goto 17 dX6_when_53 (by decide) ?_
      refine R_pick [0, 1, 2] rfl ?_
      have e : stX6_when y a m cf ca = .inr ((mpass true 1 (m, cf, ca)).1, (mpass true 1 (m, cf, ca)).2.1, (mpass true 1 (m, cf, ca)).2.2) := by unfold stX6_when; rw [if_pos c1]
      have e2 : (itX6_when y (j + 1) a m cf ca) = (itX6_when y j (a + 1) ((mpass true 1 (m, cf, ca)).1) ((mpass true 1 (m, cf, ca)).2.1) ((mpass true 1 (m, cf, ca)).2.2)) := itX6_when_n e
      rw [e2]; exact ih (a + 1) ((mpass true 1 (m, cf, ca)).1) ((mpass true 1 (m, cf, ca)).2.1) ((mpass true 1 (m, cf, ca)).2.2) (by omega)
    ·
      refine R_iload_n 49 dX6_when_48 rfl rfl ?_
      refine R_ireturn dX6_when_49 rfl rfl ?_
      have e : stX6_when y a m cf ca = .inl (nI a, (mpass true 1 (m, cf, ca)).1, (mpass true 1 (m, cf, ca)).2.1, (mpass true 1 (m, cf, ca)).2.2) := by unfold stX6_when; rw [if_neg c1]
      have e2 : (itX6_when y (j + 1) a m cf ca) = (nI a, (mpass true 1 (m, cf, ca)).1, (mpass true 1 (m, cf, ca)).2.1, (mpass true 1 (m, cf, ca)).2.2) := itX6_when_r e
      rw [e2]; exact ⟨rfl, rfl⟩
def sX6_when (n : zP) (m : zP) (cf : Nat → Int32) (ca : Nat → Nat → Int32) (y : Int32) : Int32 × zP × (Nat → Int32) × (Nat → Nat → Int32) := if 0 ≤ y then ((itX6_when y 240 0 ((sX6_think n cf ca).1) ((sX6_think n cf ca).2.1) ((sX6_think n cf ca).2.2)).1, (itX6_when y 240 0 ((sX6_think n cf ca).1) ((sX6_think n cf ca).2.1) ((sX6_think n cf ca).2.2)).2.1, (itX6_when y 240 0 ((sX6_think n cf ca).1) ((sX6_think n cf ca).2.1) ((sX6_think n cf ca).2.2)).2.2.1, (itX6_when y 240 0 ((sX6_think n cf ca).1) ((sX6_think n cf ca).2.1) ((sX6_think n cf ca).2.2)).2.2.2) else ((sX6_refuse ca (-4)).1, m, cf, (sX6_refuse ca (-4)).2)
set_option maxRecDepth 20000 in
theorem eX6_when_0 {G : zG} {h2 : List va_E} {n m i : zP} {cf : Nat → Int32} {ca : Nat → Nat → Int32} {y : Int32} : EvF G mX6_when [.ref 0, .int y] (hC G n m i cf ca, h2) (some (.int ((sX6_when n m cf ca y).1))) (hC G n ((sX6_when n m cf ca y).2.1) i ((sX6_when n m cf ca y).2.2.1) ((sX6_when n m cf ca y).2.2.2), h2) := by
  generalize hs : (sX6_when n m cf ca y) = zz
  refine EvF.of pnX6 rfl ?_
  refine R_iload_n 1 dX6_when_0 rfl rfl ?_
  refine R_if_ge 4 11 dX6_when_1 rfl (by decide) (fun c1 => ?_) (fun c1 => ?_)
  ·
    refine R_aload_n 12 dX6_when_11 rfl rfl ?_
    refine R_callVv 15 eX6_think_0 dX6_when_12 rfl kX6_think lX6_120 rfl rfl rfl rfl rfl rfl rfl ?_
    refine R_iconst 16 dX6_when_15 rfl (v := 0) (by decide) ?_
    refine R_istore_n 17 dX6_when_16 rfl rfl (by decide) (loc' := [(0, .ref 0), (1, .int y), (2, .int 0)]) rfl ?_
    refine R_pick [0, 1, 2] rfl ?_
    have e : zz = ((itX6_when y 240 0 ((sX6_think n cf ca).1) ((sX6_think n cf ca).2.1) ((sX6_think n cf ca).2.2)).1, (itX6_when y 240 0 ((sX6_think n cf ca).1) ((sX6_think n cf ca).2.1) ((sX6_think n cf ca).2.2)).2.1, (itX6_when y 240 0 ((sX6_think n cf ca).1) ((sX6_think n cf ca).2.1) ((sX6_think n cf ca).2.2)).2.2.1, (itX6_when y 240 0 ((sX6_think n cf ca).1) ((sX6_think n cf ca).2.1) ((sX6_think n cf ca).2.2)).2.2.2) := by rw [← hs]; unfold sX6_when; rw [if_pos c1]
    rw [pr1 e, pr1 (pr2 e), pr1 (pr2 (pr2 e)), pr2 (pr2 (pr2 e))]; exact lpX6_when 240 0 ((sX6_think n cf ca).1) ((sX6_think n cf ca).2.1) ((sX6_think n cf ca).2.2) rfl
  ·
    refine R_aload_n 5 dX6_when_4 rfl rfl ?_
    refine R_bipush 7 dX6_when_5 rfl (v := (-4)) (by decide) ?_
    refine R_callVi 10 eX6_refuse_0 dX6_when_7 rfl kX6_refuse lX6_51 rfl rfl rfl rfl rfl rfl rfl ?_
    refine R_ireturn dX6_when_10 rfl rfl ?_
    have e : zz = ((sX6_refuse ca (-4)).1, m, cf, (sX6_refuse ca (-4)).2) := by rw [← hs]; unfold sX6_when; rw [if_neg c1]
    rw [pr1 e, pr1 (pr2 e), pr1 (pr2 (pr2 e)), pr2 (pr2 (pr2 e))]; exact ⟨rfl, rfl⟩
def exX6_most (n : zP) (cf : Nat → Int32) (ca : Nat → Nat → Int32) (a : Nat) (who : Int32) (gr : Int32) : Int32 := who
def stX6_most (n : zP) (cf : Nat → Int32) (ca : Nat → Nat → Int32) (a : Nat) (who : Int32) (gr : Int32) : Int32 × Int32 := if (sX0_toldOf cf ca (nI a) 2) ≤ gr then (who, gr) else (nI a, (sX0_toldOf cf ca (nI a) 2))
def itX6_most (n : zP) (cf : Nat → Int32) (ca : Nat → Nat → Int32) : Nat → Nat → Int32 → Int32 → Int32
  | 0, a, who, gr => exX6_most n cf ca a who gr
  | j + 1, a, who, gr => itX6_most n cf ca j (a + 1) ((stX6_most n cf ca a who gr).1) ((stX6_most n cf ca a who gr).2)
theorem itX6_most_n {n : zP} {cf : Nat → Int32} {ca : Nat → Nat → Int32} {j a : Nat} {who : Int32} {gr : Int32} {s0_ : Int32} {s1_ : Int32} (e : stX6_most n cf ca a who gr = (s0_, s1_)) : (itX6_most n cf ca (j + 1) a who gr) = (itX6_most n cf ca j (a + 1) s0_ s1_) := by simp only [itX6_most.eq_2, e]
set_option maxRecDepth 20000 in
theorem lpX6_most {G : zG} {h2 : List va_E} {n m i : zP} {cf : Nat → Int32} {ca : Nat → Nat → Int32} : ∀ (j a : Nat) (who : Int32) (gr : Int32), a + j = (n.1 6).toNatClampNeg → R G mX6_most 39 [(0, .ref 0), (3, .int who), (4, .int gr), (5, .int (nI a))] [] (hC G n m i cf ca, h2) (fun r0 h0 => r0 = some (.int (itX6_most n cf ca j a who gr)) ∧ h0 = (hC G n m i cf ca, h2)) := by
  intro j
  induction j with
  | zero =>
    intro a who gr hj
    have hx := cl_of (n.1 6)
    have hc : n.1 6 ≤ nI a := cl_le (by omega) (by omega)
    refine R_iload 41 dX6_most_39 rfl rfl ?_
    refine R_aload_n 42 dX6_most_41 rfl rfl ?_
    refine R_get 45 dX6_most_42 rfl fX6_10 rfl (v := .ref 1) rfl ?_
    refine R_get 48 dX6_most_45 rfl fX6_138 rfl (v := .int (n.1 6)) rfl ?_
    refine R_icmp_ge 51 83 dX6_most_48 rfl (by decide) (fun _ => ?_) (fun c => absurd hc c)
    refine R_iload_n 84 dX6_most_83 rfl rfl ?_
    refine R_ireturn dX6_most_84 rfl rfl ?_
    have e : (itX6_most n cf ca 0 a who gr) = who := rfl
    rw [e]; exact ⟨rfl, rfl⟩
  | succ j ih =>
    intro a who gr hj
    have hc : ¬ n.1 6 ≤ nI a := cl_gt (by omega)
    refine R_iload 41 dX6_most_39 rfl rfl ?_
    refine R_aload_n 42 dX6_most_41 rfl rfl ?_
    refine R_get 45 dX6_most_42 rfl fX6_10 rfl (v := .ref 1) rfl ?_
    refine R_get 48 dX6_most_45 rfl fX6_138 rfl (v := .int (n.1 6)) rfl ?_
    refine R_icmp_ge 51 83 dX6_most_48 rfl (by decide) (fun c => absurd c hc) (fun _ => ?_)
    refine R_aload_n 52 dX6_most_51 rfl rfl ?_
    refine R_get 55 dX6_most_52 rfl fX6_25 rfl (v := .ref 28) rfl ?_
    refine R_iload 57 dX6_most_55 rfl rfl ?_
    refine R_iconst 58 dX6_most_57 rfl (v := 2) (by decide) ?_
    refine R_callVi 61 eX0_toldOf_28 dX6_most_58 rfl kX0_toldOf lX6_131 rfl rfl rfl rfl rfl rfl rfl ?_
    refine R_istore 63 dX6_most_61 rfl rfl (by decide) (loc' := [(0, .ref 0), (3, .int who), (4, .int gr), (5, .int (nI a)), (6, .int (sX0_toldOf cf ca (nI a) 2))]) rfl ?_
    refine R_iload 65 dX6_most_63 rfl rfl ?_
    refine R_iload 67 dX6_most_65 rfl rfl ?_
    refine R_icmp_le 70 77 dX6_most_67 rfl (by decide) (fun c1 => ?_) (fun c1 => ?_)
    ·
      refine R_iinc 80 dX6_most_77 rfl rfl (v := (nI (a + 1))) (nI_1 a) rfl (by decide) (loc' := [(0, .ref 0), (3, .int who), (4, .int gr), (5, .int (nI (a + 1))), (6, .int (sX0_toldOf cf ca (nI a) 2))]) rfl ?_
      refine R_goto 39 dX6_most_80 (by decide) ?_
      refine R_pick [0, 1, 2, 3] rfl ?_
      have e : stX6_most n cf ca a who gr = (who, gr) := by unfold stX6_most; rw [if_pos c1]
      have e2 : (itX6_most n cf ca (j + 1) a who gr) = (itX6_most n cf ca j (a + 1) who gr) := itX6_most_n e
      rw [e2]; exact ih (a + 1) who gr (by omega)
    ·
      refine R_iload 72 dX6_most_70 rfl rfl ?_
      refine R_istore 74 dX6_most_72 rfl rfl (by decide) (loc' := [(0, .ref 0), (3, .int who), (4, .int (sX0_toldOf cf ca (nI a) 2)), (5, .int (nI a)), (6, .int (sX0_toldOf cf ca (nI a) 2))]) rfl ?_
      refine R_iload 76 dX6_most_74 rfl rfl ?_
      refine R_istore_n 77 dX6_most_76 rfl rfl (by decide) (loc' := [(0, .ref 0), (3, .int (nI a)), (4, .int (sX0_toldOf cf ca (nI a) 2)), (5, .int (nI a)), (6, .int (sX0_toldOf cf ca (nI a) 2))]) rfl ?_
      refine R_iinc 80 dX6_most_77 rfl rfl (v := (nI (a + 1))) (nI_1 a) rfl (by decide) (loc' := [(0, .ref 0), (3, .int (nI a)), (4, .int (sX0_toldOf cf ca (nI a) 2)), (5, .int (nI (a + 1))), (6, .int (sX0_toldOf cf ca (nI a) 2))]) rfl ?_
      refine R_goto 39 dX6_most_80 (by decide) ?_
      refine R_pick [0, 1, 2, 3] rfl ?_
      have e : stX6_most n cf ca a who gr = (nI a, (sX0_toldOf cf ca (nI a) 2)) := by unfold stX6_most; rw [if_neg c1]
      have e2 : (itX6_most n cf ca (j + 1) a who gr) = (itX6_most n cf ca j (a + 1) (nI a) (sX0_toldOf cf ca (nI a) 2)) := itX6_most_n e
      rw [e2]; exact ih (a + 1) (nI a) (sX0_toldOf cf ca (nI a) 2) (by omega)
def sX6_most (n : zP) (m : zP) (cf : Nat → Int32) (ca : Nat → Nat → Int32) (x : Int32) : Int32 × zP × (Nat → Int32) × (Nat → Nat → Int32) := if (sX6_outside x 0 240) = 0 then ((itX6_most n ((sX6_playInMind ((sX6_think n cf ca).1) ((sX6_think n cf ca).2.1) ((sX6_think n cf ca).2.2) x true).2.2.1) ((sX6_playInMind ((sX6_think n cf ca).1) ((sX6_think n cf ca).2.1) ((sX6_think n cf ca).2.2) x true).2.2.2) (n.1 6).toNatClampNeg 0 (-9) (-1)), (sX6_playInMind ((sX6_think n cf ca).1) ((sX6_think n cf ca).2.1) ((sX6_think n cf ca).2.2) x true).2.1, (sX6_playInMind ((sX6_think n cf ca).1) ((sX6_think n cf ca).2.1) ((sX6_think n cf ca).2.2) x true).2.2.1, (sX6_playInMind ((sX6_think n cf ca).1) ((sX6_think n cf ca).2.1) ((sX6_think n cf ca).2.2) x true).2.2.2) else ((sX6_refuse ca (sX6_outside x 0 240)).1, m, cf, (sX6_refuse ca (sX6_outside x 0 240)).2)
set_option maxRecDepth 20000 in
theorem eX6_most_0 {G : zG} {h2 : List va_E} {n m i : zP} {cf : Nat → Int32} {ca : Nat → Nat → Int32} {x : Int32} : EvF G mX6_most [.ref 0, .int x] (hC G n m i cf ca, h2) (some (.int ((sX6_most n m cf ca x).1))) (hC G n ((sX6_most n m cf ca x).2.1) i ((sX6_most n m cf ca x).2.2.1) ((sX6_most n m cf ca x).2.2.2), h2) := by
  generalize hs : (sX6_most n m cf ca x) = zz
  refine EvF.of pnX6 rfl ?_
  refine R_iload_n 1 dX6_most_0 rfl rfl ?_
  refine R_iconst 2 dX6_most_1 rfl (v := 0) (by decide) ?_
  refine R_sipush 5 dX6_most_2 rfl (v := 240) (by decide) ?_
  refine R_callSi 8 eX6_outside dX6_most_5 rfl kX6_outside lX6_43 rfl rfl rfl rfl rfl ?_
  refine R_istore_n 9 dX6_most_8 rfl rfl (by decide) (loc' := [(0, .ref 0), (1, .int x), (2, .int (sX6_outside x 0 240))]) rfl ?_
  refine R_iload_n 10 dX6_most_9 rfl rfl ?_
  refine R_if_eq 13 19 dX6_most_10 rfl (by decide) (fun c1 => ?_) (fun c1 => ?_)
  ·
    refine R_aload_n 20 dX6_most_19 rfl rfl ?_
    refine R_callVv 23 eX6_think_0 dX6_most_20 rfl kX6_think lX6_120 rfl rfl rfl rfl rfl rfl rfl ?_
    refine R_aload_n 24 dX6_most_23 rfl rfl ?_
    refine R_iload_n 25 dX6_most_24 rfl rfl ?_
    refine R_iconst 26 dX6_most_25 rfl (v := 1) (by decide) ?_
    refine R_callVi 29 (eX6_playInMind_0 (x := x) (mg := true)) dX6_most_26 rfl kX6_playInMind lX6_123 rfl rfl rfl rfl rfl rfl rfl ?_
    refine R_pop 30 dX6_most_29 rfl rfl ?_
    refine R_bipush 32 dX6_most_30 rfl (v := (-9)) (by decide) ?_
    refine R_istore_n 33 dX6_most_32 rfl rfl (by decide) (loc' := [(0, .ref 0), (1, .int x), (2, .int (sX6_outside x 0 240)), (3, .int (-9))]) rfl ?_
    refine R_iconst 34 dX6_most_33 rfl (v := (-1)) (by decide) ?_
    refine R_istore 36 dX6_most_34 rfl rfl (by decide) (loc' := [(0, .ref 0), (1, .int x), (2, .int (sX6_outside x 0 240)), (3, .int (-9)), (4, .int (-1))]) rfl ?_
    refine R_iconst 37 dX6_most_36 rfl (v := 0) (by decide) ?_
    refine R_istore 39 dX6_most_37 rfl rfl (by decide) (loc' := [(0, .ref 0), (1, .int x), (2, .int (sX6_outside x 0 240)), (3, .int (-9)), (4, .int (-1)), (5, .int 0)]) rfl ?_
    refine R_pick [0, 3, 4, 5] rfl ?_
    have e : zz = ((itX6_most n ((sX6_playInMind ((sX6_think n cf ca).1) ((sX6_think n cf ca).2.1) ((sX6_think n cf ca).2.2) x true).2.2.1) ((sX6_playInMind ((sX6_think n cf ca).1) ((sX6_think n cf ca).2.1) ((sX6_think n cf ca).2.2) x true).2.2.2) (n.1 6).toNatClampNeg 0 (-9) (-1)), (sX6_playInMind ((sX6_think n cf ca).1) ((sX6_think n cf ca).2.1) ((sX6_think n cf ca).2.2) x true).2.1, (sX6_playInMind ((sX6_think n cf ca).1) ((sX6_think n cf ca).2.1) ((sX6_think n cf ca).2.2) x true).2.2.1, (sX6_playInMind ((sX6_think n cf ca).1) ((sX6_think n cf ca).2.1) ((sX6_think n cf ca).2.2) x true).2.2.2) := by rw [← hs]; unfold sX6_most; rw [if_pos c1]
    rw [pr1 e, pr1 (pr2 e), pr1 (pr2 (pr2 e)), pr2 (pr2 (pr2 e))]; exact lpX6_most ((n.1 6).toNatClampNeg) 0 (-9) (-1) (Nat.zero_add _)
  ·
    refine R_aload_n 14 dX6_most_13 rfl rfl ?_
    refine R_iload_n 15 dX6_most_14 rfl rfl ?_
    refine R_callVi 18 eX6_refuse_0 dX6_most_15 rfl kX6_refuse lX6_51 rfl rfl rfl rfl rfl rfl rfl ?_
    refine R_ireturn dX6_most_18 rfl rfl ?_
    have e : zz = ((sX6_refuse ca (sX6_outside x 0 240)).1, m, cf, (sX6_refuse ca (sX6_outside x 0 240)).2) := by rw [← hs]; unfold sX6_most; rw [if_neg c1]
    rw [pr1 e, pr1 (pr2 e), pr1 (pr2 (pr2 e)), pr2 (pr2 (pr2 e))]; exact ⟨rfl, rfl⟩
def exX6_lots (n : zP) (a : Nat) (m : zP) (cf : Nat → Int32) (ca : Nat → Nat → Int32) (sd : Int32) (al : Int32) : Int32 × zP × (Nat → Int32) × (Nat → Nat → Int32) := (al, m, cf, ca)
def stX6_lots (n : zP) (a : Nat) (m : zP) (cf : Nat → Int32) (ca : Nat → Nat → Int32) (sd : Int32) (al : Int32) : zP × (Nat → Int32) × (Nat → Nat → Int32) × Int32 × Int32 := ((sX6_playInMind ((upd (sX6_think n cf ca).1.1 0 ((((((sd * 1664525) + 1013904223) &&& 2147483647) / 256) - ((((sd * 1664525) + 1013904223) &&& 2147483647) / 256) / 41 * 41) - 20)), (sX6_think n cf ca).1.2) ((sX6_think n cf ca).2.1) ((sX6_think n cf ca).2.2) 60 true).2.1, (sX6_playInMind ((upd (sX6_think n cf ca).1.1 0 ((((((sd * 1664525) + 1013904223) &&& 2147483647) / 256) - ((((sd * 1664525) + 1013904223) &&& 2147483647) / 256) / 41 * 41) - 20)), (sX6_think n cf ca).1.2) ((sX6_think n cf ca).2.1) ((sX6_think n cf ca).2.2) 60 true).2.2.1, (sX6_playInMind ((upd (sX6_think n cf ca).1.1 0 ((((((sd * 1664525) + 1013904223) &&& 2147483647) / 256) - ((((sd * 1664525) + 1013904223) &&& 2147483647) / 256) / 41 * 41) - 20)), (sX6_think n cf ca).1.2) ((sX6_think n cf ca).2.1) ((sX6_think n cf ca).2.2) 60 true).2.2.2, (sd * 1664525) + 1013904223, (al + ((sX6_playInMind ((upd (sX6_think n cf ca).1.1 0 ((((((sd * 1664525) + 1013904223) &&& 2147483647) / 256) - ((((sd * 1664525) + 1013904223) &&& 2147483647) / 256) / 41 * 41) - 20)), (sX6_think n cf ca).1.2) ((sX6_think n cf ca).2.1) ((sX6_think n cf ca).2.2) 60 true).1)))
def itX6_lots (n : zP) : Nat → Nat → zP → (Nat → Int32) → (Nat → Nat → Int32) → Int32 → Int32 → Int32 × zP × (Nat → Int32) × (Nat → Nat → Int32)
  | 0, a, m, cf, ca, sd, al => exX6_lots n a m cf ca sd al
  | j + 1, a, m, cf, ca, sd, al => itX6_lots n j (a + 1) ((stX6_lots n a m cf ca sd al).1) ((stX6_lots n a m cf ca sd al).2.1) ((stX6_lots n a m cf ca sd al).2.2.1) ((stX6_lots n a m cf ca sd al).2.2.2.1) ((stX6_lots n a m cf ca sd al).2.2.2.2)
theorem itX6_lots_n {n : zP} {j a : Nat} {m : zP} {cf : Nat → Int32} {ca : Nat → Nat → Int32} {sd : Int32} {al : Int32} {s0_ : zP} {s1_ : Nat → Int32} {s2_ : Nat → Nat → Int32} {s3_ : Int32} {s4_ : Int32} (e : stX6_lots n a m cf ca sd al = (s0_, s1_, s2_, s3_, s4_)) : (itX6_lots n (j + 1) a m cf ca sd al) = (itX6_lots n j (a + 1) s0_ s1_ s2_ s3_ s4_) := by simp only [itX6_lots.eq_2, e]
set_option maxRecDepth 20000 in
theorem lpX6_lots {G : zG} {h2 : List va_E} {n i : zP} {x : Int32} : ∀ (j a : Nat) (m : zP) (cf : Nat → Int32) (ca : Nat → Nat → Int32) (sd : Int32) (al : Int32), a + j = x.toNatClampNeg → R G mX6_lots 27 [(0, .ref 0), (1, .int x), (4, .int sd), (5, .int al), (6, .int (nI a))] [] (hC G n m i cf ca, h2) (fun r0 h0 => r0 = some (.int ((itX6_lots n j a m cf ca sd al).1)) ∧ h0 = (hC G n ((itX6_lots n j a m cf ca sd al).2.1) i ((itX6_lots n j a m cf ca sd al).2.2.1) ((itX6_lots n j a m cf ca sd al).2.2.2), h2)) := by
  intro j
  induction j with
  | zero =>
    intro a m cf ca sd al hj
    have hx := cl_of x
    have hc : x ≤ nI a := cl_le (by omega) (by omega)
    refine R_iload 29 dX6_lots_27 rfl rfl ?_
    refine R_iload_n 30 dX6_lots_29 rfl rfl ?_
    refine R_icmp_ge 33 87 dX6_lots_30 rfl (by decide) (fun _ => ?_) (fun c => absurd hc c)
    refine R_iload 89 dX6_lots_87 rfl rfl ?_
    refine R_ireturn dX6_lots_89 rfl rfl ?_
    have e : (itX6_lots n 0 a m cf ca sd al) = (al, m, cf, ca) := rfl
    rw [e]; exact ⟨rfl, rfl⟩
  | succ j ih =>
    intro a m cf ca sd al hj
    have hc : ¬ x ≤ nI a := cl_gt (by omega)
    refine R_iload 29 dX6_lots_27 rfl rfl ?_
    refine R_iload_n 30 dX6_lots_29 rfl rfl ?_
    refine R_icmp_ge 33 87 dX6_lots_30 rfl (by decide) (fun c => absurd c hc) (fun _ => ?_)
    refine R_iload 35 dX6_lots_33 rfl rfl ?_
    refine R_ldc 37 dX6_lots_35 rfl qX6_162 ?_
    refine R_imul 38 dX6_lots_37 rfl ?_
    refine R_ldc 40 dX6_lots_38 rfl qX6_163 ?_
    refine R_iadd 41 dX6_lots_40 rfl ?_
    refine R_istore 43 dX6_lots_41 rfl rfl (by decide) (loc' := [(0, .ref 0), (1, .int x), (4, .int ((sd * 1664525) + 1013904223)), (5, .int al), (6, .int (nI a))]) rfl ?_
    refine R_aload_n 44 dX6_lots_43 rfl rfl ?_
    refine R_callVv 47 eX6_think_0 dX6_lots_44 rfl kX6_think lX6_120 rfl rfl rfl rfl rfl rfl rfl ?_
    refine R_aload_n 48 dX6_lots_47 rfl rfl ?_
    refine R_get 51 dX6_lots_48 rfl fX6_16 rfl (v := .ref 10) rfl ?_
    refine R_iload 53 dX6_lots_51 rfl rfl ?_
    refine R_ldc 55 dX6_lots_53 rfl qX6_164 ?_
    refine R_iand 56 dX6_lots_55 rfl ?_
    refine R_sipush 59 dX6_lots_56 rfl (v := 256) (by decide) ?_
    refine R_idiv 60 dX6_lots_59 rfl (by decide) ?_
    refine R_bipush 62 dX6_lots_60 rfl (v := 41) (by decide) ?_
    refine R_irem 63 dX6_lots_62 rfl (by decide) ?_
    refine R_bipush 65 dX6_lots_63 rfl (v := 20) (by decide) ?_
    refine R_isub 66 dX6_lots_65 rfl ?_
    refine R_nm (fun z1_ hz1_ => ?_)
    refine R_put 69 dX6_lots_66 rfl wX6_128 rfl rfl rfl rfl (h2 := (hC G n ((upd (sX6_think n cf ca).1.1 0 z1_), (sX6_think n cf ca).1.2) i ((sX6_think n cf ca).2.1) ((sX6_think n cf ca).2.2), h2)) rfl ?_
    refine R_iload 71 dX6_lots_69 rfl rfl ?_
    refine R_aload_n 72 dX6_lots_71 rfl rfl ?_
    refine R_bipush 74 dX6_lots_72 rfl (v := 60) (by decide) ?_
    refine R_iconst 75 dX6_lots_74 rfl (v := 1) (by decide) ?_
    refine R_callVi 78 (eX6_playInMind_0 (x := 60) (mg := true)) dX6_lots_75 rfl kX6_playInMind lX6_123 rfl rfl rfl rfl rfl rfl rfl ?_
    refine R_iadd 79 dX6_lots_78 rfl ?_
    refine R_nm (fun z2_ hz2_ => ?_)
    refine R_istore 81 dX6_lots_79 rfl rfl (by decide) (loc' := [(0, .ref 0), (1, .int x), (4, .int ((sd * 1664525) + 1013904223)), (5, .int z2_), (6, .int (nI a))]) rfl ?_
    refine R_iinc 84 dX6_lots_81 rfl rfl (v := (nI (a + 1))) (nI_1 a) rfl (by decide) (loc' := [(0, .ref 0), (1, .int x), (4, .int ((sd * 1664525) + 1013904223)), (5, .int z2_), (6, .int (nI (a + 1)))]) rfl ?_
    refine R_goto 27 dX6_lots_84 (by decide) ?_
    subst hz1_ hz2_
    refine R_pick [0, 1, 2, 3, 4] rfl ?_
    have e : stX6_lots n a m cf ca sd al = ((sX6_playInMind ((upd (sX6_think n cf ca).1.1 0 ((((((sd * 1664525) + 1013904223) &&& 2147483647) / 256) - ((((sd * 1664525) + 1013904223) &&& 2147483647) / 256) / 41 * 41) - 20)), (sX6_think n cf ca).1.2) ((sX6_think n cf ca).2.1) ((sX6_think n cf ca).2.2) 60 true).2.1, (sX6_playInMind ((upd (sX6_think n cf ca).1.1 0 ((((((sd * 1664525) + 1013904223) &&& 2147483647) / 256) - ((((sd * 1664525) + 1013904223) &&& 2147483647) / 256) / 41 * 41) - 20)), (sX6_think n cf ca).1.2) ((sX6_think n cf ca).2.1) ((sX6_think n cf ca).2.2) 60 true).2.2.1, (sX6_playInMind ((upd (sX6_think n cf ca).1.1 0 ((((((sd * 1664525) + 1013904223) &&& 2147483647) / 256) - ((((sd * 1664525) + 1013904223) &&& 2147483647) / 256) / 41 * 41) - 20)), (sX6_think n cf ca).1.2) ((sX6_think n cf ca).2.1) ((sX6_think n cf ca).2.2) 60 true).2.2.2, (sd * 1664525) + 1013904223, (al + ((sX6_playInMind ((upd (sX6_think n cf ca).1.1 0 ((((((sd * 1664525) + 1013904223) &&& 2147483647) / 256) - ((((sd * 1664525) + 1013904223) &&& 2147483647) / 256) / 41 * 41) - 20)), (sX6_think n cf ca).1.2) ((sX6_think n cf ca).2.1) ((sX6_think n cf ca).2.2) 60 true).1))) := by rfl
    have e2 : (itX6_lots n (j + 1) a m cf ca sd al) = (itX6_lots n j (a + 1) ((sX6_playInMind ((upd (sX6_think n cf ca).1.1 0 ((((((sd * 1664525) + 1013904223) &&& 2147483647) / 256) - ((((sd * 1664525) + 1013904223) &&& 2147483647) / 256) / 41 * 41) - 20)), (sX6_think n cf ca).1.2) ((sX6_think n cf ca).2.1) ((sX6_think n cf ca).2.2) 60 true).2.1) ((sX6_playInMind ((upd (sX6_think n cf ca).1.1 0 ((((((sd * 1664525) + 1013904223) &&& 2147483647) / 256) - ((((sd * 1664525) + 1013904223) &&& 2147483647) / 256) / 41 * 41) - 20)), (sX6_think n cf ca).1.2) ((sX6_think n cf ca).2.1) ((sX6_think n cf ca).2.2) 60 true).2.2.1) ((sX6_playInMind ((upd (sX6_think n cf ca).1.1 0 ((((((sd * 1664525) + 1013904223) &&& 2147483647) / 256) - ((((sd * 1664525) + 1013904223) &&& 2147483647) / 256) / 41 * 41) - 20)), (sX6_think n cf ca).1.2) ((sX6_think n cf ca).2.1) ((sX6_think n cf ca).2.2) 60 true).2.2.2) ((sd * 1664525) + 1013904223) (al + ((sX6_playInMind ((upd (sX6_think n cf ca).1.1 0 ((((((sd * 1664525) + 1013904223) &&& 2147483647) / 256) - ((((sd * 1664525) + 1013904223) &&& 2147483647) / 256) / 41 * 41) - 20)), (sX6_think n cf ca).1.2) ((sX6_think n cf ca).2.1) ((sX6_think n cf ca).2.2) 60 true).1))) := itX6_lots_n e
    rw [e2]; exact ih (a + 1) ((sX6_playInMind ((upd (sX6_think n cf ca).1.1 0 ((((((sd * 1664525) + 1013904223) &&& 2147483647) / 256) - ((((sd * 1664525) + 1013904223) &&& 2147483647) / 256) / 41 * 41) - 20)), (sX6_think n cf ca).1.2) ((sX6_think n cf ca).2.1) ((sX6_think n cf ca).2.2) 60 true).2.1) ((sX6_playInMind ((upd (sX6_think n cf ca).1.1 0 ((((((sd * 1664525) + 1013904223) &&& 2147483647) / 256) - ((((sd * 1664525) + 1013904223) &&& 2147483647) / 256) / 41 * 41) - 20)), (sX6_think n cf ca).1.2) ((sX6_think n cf ca).2.1) ((sX6_think n cf ca).2.2) 60 true).2.2.1) ((sX6_playInMind ((upd (sX6_think n cf ca).1.1 0 ((((((sd * 1664525) + 1013904223) &&& 2147483647) / 256) - ((((sd * 1664525) + 1013904223) &&& 2147483647) / 256) / 41 * 41) - 20)), (sX6_think n cf ca).1.2) ((sX6_think n cf ca).2.1) ((sX6_think n cf ca).2.2) 60 true).2.2.2) ((sd * 1664525) + 1013904223) (al + ((sX6_playInMind ((upd (sX6_think n cf ca).1.1 0 ((((((sd * 1664525) + 1013904223) &&& 2147483647) / 256) - ((((sd * 1664525) + 1013904223) &&& 2147483647) / 256) / 41 * 41) - 20)), (sX6_think n cf ca).1.2) ((sX6_think n cf ca).2.1) ((sX6_think n cf ca).2.2) 60 true).1)) (by omega)
def sX6_lots (n : zP) (m : zP) (cf : Nat → Int32) (ca : Nat → Nat → Int32) (x : Int32) (z : Int32) : Int32 × zP × (Nat → Int32) × (Nat → Nat → Int32) := if (sX6_outside x 1 20) = 0 then ((itX6_lots n x.toNatClampNeg 0 m cf ca z 0).1, (itX6_lots n x.toNatClampNeg 0 m cf ca z 0).2.1, (itX6_lots n x.toNatClampNeg 0 m cf ca z 0).2.2.1, (itX6_lots n x.toNatClampNeg 0 m cf ca z 0).2.2.2) else ((sX6_refuse ca (sX6_outside x 1 20)).1, m, cf, (sX6_refuse ca (sX6_outside x 1 20)).2)
set_option maxRecDepth 20000 in
theorem eX6_lots_0 {G : zG} {h2 : List va_E} {n m i : zP} {cf : Nat → Int32} {ca : Nat → Nat → Int32} {x z : Int32} : EvF G mX6_lots [.ref 0, .int x, .int z] (hC G n m i cf ca, h2) (some (.int ((sX6_lots n m cf ca x z).1))) (hC G n ((sX6_lots n m cf ca x z).2.1) i ((sX6_lots n m cf ca x z).2.2.1) ((sX6_lots n m cf ca x z).2.2.2), h2) := by
  generalize hs : (sX6_lots n m cf ca x z) = zz
  refine EvF.of pnX6 rfl ?_
  refine R_iload_n 1 dX6_lots_0 rfl rfl ?_
  refine R_iconst 2 dX6_lots_1 rfl (v := 1) (by decide) ?_
  refine R_bipush 4 dX6_lots_2 rfl (v := 20) (by decide) ?_
  refine R_callSi 7 eX6_outside dX6_lots_4 rfl kX6_outside lX6_43 rfl rfl rfl rfl rfl ?_
  refine R_istore_n 8 dX6_lots_7 rfl rfl (by decide) (loc' := [(0, .ref 0), (1, .int x), (2, .int z), (3, .int (sX6_outside x 1 20))]) rfl ?_
  refine R_iload_n 9 dX6_lots_8 rfl rfl ?_
  refine R_if_eq 12 18 dX6_lots_9 rfl (by decide) (fun c1 => ?_) (fun c1 => ?_)
  ·
    refine R_iload_n 19 dX6_lots_18 rfl rfl ?_
    refine R_istore 21 dX6_lots_19 rfl rfl (by decide) (loc' := [(0, .ref 0), (1, .int x), (2, .int z), (3, .int (sX6_outside x 1 20)), (4, .int z)]) rfl ?_
    refine R_iconst 22 dX6_lots_21 rfl (v := 0) (by decide) ?_
    refine R_istore 24 dX6_lots_22 rfl rfl (by decide) (loc' := [(0, .ref 0), (1, .int x), (2, .int z), (3, .int (sX6_outside x 1 20)), (4, .int z), (5, .int 0)]) rfl ?_
    refine R_iconst 25 dX6_lots_24 rfl (v := 0) (by decide) ?_
    refine R_istore 27 dX6_lots_25 rfl rfl (by decide) (loc' := [(0, .ref 0), (1, .int x), (2, .int z), (3, .int (sX6_outside x 1 20)), (4, .int z), (5, .int 0), (6, .int 0)]) rfl ?_
    refine R_pick [0, 1, 4, 5, 6] rfl ?_
    have e : zz = ((itX6_lots n x.toNatClampNeg 0 m cf ca z 0).1, (itX6_lots n x.toNatClampNeg 0 m cf ca z 0).2.1, (itX6_lots n x.toNatClampNeg 0 m cf ca z 0).2.2.1, (itX6_lots n x.toNatClampNeg 0 m cf ca z 0).2.2.2) := by rw [← hs]; unfold sX6_lots; rw [if_pos c1]
    rw [pr1 e, pr1 (pr2 e), pr1 (pr2 (pr2 e)), pr2 (pr2 (pr2 e))]; exact lpX6_lots x.toNatClampNeg 0 m cf ca z 0 (Nat.zero_add _)
  ·
    refine R_aload_n 13 dX6_lots_12 rfl rfl ?_
    refine R_iload_n 14 dX6_lots_13 rfl rfl ?_
    refine R_callVi 17 eX6_refuse_0 dX6_lots_14 rfl kX6_refuse lX6_51 rfl rfl rfl rfl rfl rfl rfl ?_
    refine R_ireturn dX6_lots_17 rfl rfl ?_
    have e : zz = ((sX6_refuse ca (sX6_outside x 1 20)).1, m, cf, (sX6_refuse ca (sX6_outside x 1 20)).2) := by rw [← hs]; unfold sX6_lots; rw [if_neg c1]
    rw [pr1 e, pr1 (pr2 e), pr1 (pr2 (pr2 e)), pr2 (pr2 (pr2 e))]; exact ⟨rfl, rfl⟩
def exX6_leastCostly (n : zP) (x : Int32) (w : Int32) (a : Nat) (m : zP) (cf : Nat → Int32) (ca : Nat → Nat → Int32) (be : Int32) (le : Int32) (v : Int32) : Int32 × zP × (Nat → Int32) × (Nat → Nat → Int32) := (be, m, cf, ca)
def stX6_leastCostly (n : zP) (x : Int32) (w : Int32) (a : Nat) (m : zP) (cf : Nat → Int32) (ca : Nat → Nat → Int32) (be : Int32) (le : Int32) (v : Int32) : zP × (Nat → Int32) × (Nat → Nat → Int32) × Int32 × Int32 × Int32 := if le < 0 then ((sX6_playInMind ((sX2_change ((sX6_think n cf ca).1) w v).2) ((sX6_think n cf ca).2.1) ((sX6_think n cf ca).2.2) x true).2.1, (sX6_playInMind ((sX2_change ((sX6_think n cf ca).1) w v).2) ((sX6_think n cf ca).2.1) ((sX6_think n cf ca).2.2) x true).2.2.1, (sX6_playInMind ((sX2_change ((sX6_think n cf ca).1) w v).2) ((sX6_think n cf ca).2.1) ((sX6_think n cf ca).2.2) x true).2.2.2, v, ((sX6_playInMind ((sX2_change ((sX6_think n cf ca).1) w v).2) ((sX6_think n cf ca).2.1) ((sX6_think n cf ca).2.2) x true).1), v + 1) else if le ≤ ((sX6_playInMind ((sX2_change ((sX6_think n cf ca).1) w v).2) ((sX6_think n cf ca).2.1) ((sX6_think n cf ca).2.2) x true).1) then ((sX6_playInMind ((sX2_change ((sX6_think n cf ca).1) w v).2) ((sX6_think n cf ca).2.1) ((sX6_think n cf ca).2.2) x true).2.1, (sX6_playInMind ((sX2_change ((sX6_think n cf ca).1) w v).2) ((sX6_think n cf ca).2.1) ((sX6_think n cf ca).2.2) x true).2.2.1, (sX6_playInMind ((sX2_change ((sX6_think n cf ca).1) w v).2) ((sX6_think n cf ca).2.1) ((sX6_think n cf ca).2.2) x true).2.2.2, be, le, v + 1) else ((sX6_playInMind ((sX2_change ((sX6_think n cf ca).1) w v).2) ((sX6_think n cf ca).2.1) ((sX6_think n cf ca).2.2) x true).2.1, (sX6_playInMind ((sX2_change ((sX6_think n cf ca).1) w v).2) ((sX6_think n cf ca).2.1) ((sX6_think n cf ca).2.2) x true).2.2.1, (sX6_playInMind ((sX2_change ((sX6_think n cf ca).1) w v).2) ((sX6_think n cf ca).2.1) ((sX6_think n cf ca).2.2) x true).2.2.2, v, ((sX6_playInMind ((sX2_change ((sX6_think n cf ca).1) w v).2) ((sX6_think n cf ca).2.1) ((sX6_think n cf ca).2.2) x true).1), v + 1)
def itX6_leastCostly (n : zP) (x : Int32) (w : Int32) : Nat → Nat → zP → (Nat → Int32) → (Nat → Nat → Int32) → Int32 → Int32 → Int32 → Int32 × zP × (Nat → Int32) × (Nat → Nat → Int32)
  | 0, a, m, cf, ca, be, le, v => exX6_leastCostly n x w a m cf ca be le v
  | j + 1, a, m, cf, ca, be, le, v => itX6_leastCostly n x w j (a + 1) ((stX6_leastCostly n x w a m cf ca be le v).1) ((stX6_leastCostly n x w a m cf ca be le v).2.1) ((stX6_leastCostly n x w a m cf ca be le v).2.2.1) ((stX6_leastCostly n x w a m cf ca be le v).2.2.2.1) ((stX6_leastCostly n x w a m cf ca be le v).2.2.2.2.1) ((stX6_leastCostly n x w a m cf ca be le v).2.2.2.2.2)
theorem itX6_leastCostly_n {n : zP} {x : Int32} {w : Int32} {j a : Nat} {m : zP} {cf : Nat → Int32} {ca : Nat → Nat → Int32} {be : Int32} {le : Int32} {v : Int32} {s0_ : zP} {s1_ : Nat → Int32} {s2_ : Nat → Nat → Int32} {s3_ : Int32} {s4_ : Int32} {s5_ : Int32} (e : stX6_leastCostly n x w a m cf ca be le v = (s0_, s1_, s2_, s3_, s4_, s5_)) : (itX6_leastCostly n x w (j + 1) a m cf ca be le v) = (itX6_leastCostly n x w j (a + 1) s0_ s1_ s2_ s3_ s4_ s5_) := by simp only [itX6_leastCostly.eq_2, e]
set_option maxRecDepth 20000 in
theorem lpX6_leastCostly {G : zG} {h2 : List va_E} {n i : zP} {x w la : Int32} : ∀ (j a : Nat) (m : zP) (cf : Nat → Int32) (ca : Nat → Nat → Int32) (be : Int32) (le : Int32) (v : Int32), (v.toInt + j = la.toInt + 1 ∧ la.toInt < 2 ^ 29) → R G mX6_leastCostly 9 [(0, .ref 0), (1, .int x), (2, .int w), (4, .int la), (5, .int be), (6, .int le), (7, .int v)] [] (hC G n m i cf ca, h2) (fun r0 h0 => r0 = some (.int ((itX6_leastCostly n x w j a m cf ca be le v).1)) ∧ h0 = (hC G n ((itX6_leastCostly n x w j a m cf ca be le v).2.1) i ((itX6_leastCostly n x w j a m cf ca be le v).2.2.1) ((itX6_leastCostly n x w j a m cf ca be le v).2.2.2), h2)) := by
  intro j
  induction j with
  | zero =>
    intro a m cf ca be le v hj
    have hc : la < v := by rw [Int32.lt_iff_toInt_lt]; omega
    refine R_iload 11 dX6_leastCostly_9 rfl rfl ?_
    refine R_iload 13 dX6_leastCostly_11 rfl rfl ?_
    refine R_icmp_gt 16 65 dX6_leastCostly_13 rfl (by decide) (fun _ => ?_) (fun c => absurd hc c)
    refine R_iload 67 dX6_leastCostly_65 rfl rfl ?_
    refine R_ireturn dX6_leastCostly_67 rfl rfl ?_
    have e : (itX6_leastCostly n x w 0 a m cf ca be le v) = (be, m, cf, ca) := rfl
    rw [e]; exact ⟨rfl, rfl⟩
  | succ j ih =>
    intro a m cf ca be le v hj
    have hc : ¬ la < v := by rw [Int32.lt_iff_toInt_lt]; omega
    refine R_iload 11 dX6_leastCostly_9 rfl rfl ?_
    refine R_iload 13 dX6_leastCostly_11 rfl rfl ?_
    refine R_icmp_gt 16 65 dX6_leastCostly_13 rfl (by decide) (fun c => absurd c hc) (fun _ => ?_)
    refine R_aload_n 17 dX6_leastCostly_16 rfl rfl ?_
    refine R_callVv 20 eX6_think_0 dX6_leastCostly_17 rfl kX6_think lX6_120 rfl rfl rfl rfl rfl rfl rfl ?_
    refine R_aload_n 21 dX6_leastCostly_20 rfl rfl ?_
    refine R_get 24 dX6_leastCostly_21 rfl fX6_16 rfl (v := .ref 10) rfl ?_
    refine R_iload_n 25 dX6_leastCostly_24 rfl rfl ?_
    refine R_iload 27 dX6_leastCostly_25 rfl rfl ?_
    refine R_callVi 30 eX2_change_10 dX6_leastCostly_27 rfl kX2_change lX6_94 rfl rfl rfl rfl rfl rfl rfl ?_
    refine R_pop 31 dX6_leastCostly_30 rfl rfl ?_
    refine R_aload_n 32 dX6_leastCostly_31 rfl rfl ?_
    refine R_iload_n 33 dX6_leastCostly_32 rfl rfl ?_
    refine R_iconst 34 dX6_leastCostly_33 rfl (v := 1) (by decide) ?_
    refine R_callVi 37 (eX6_playInMind_0 (x := x) (mg := true)) dX6_leastCostly_34 rfl kX6_playInMind lX6_123 rfl rfl rfl rfl rfl rfl rfl ?_
    refine R_nm (fun z1_ hz1_ => ?_)
    refine R_istore 39 dX6_leastCostly_37 rfl rfl (by decide) (loc' := [(0, .ref 0), (1, .int x), (2, .int w), (4, .int la), (5, .int be), (6, .int le), (7, .int v), (8, .int z1_)]) rfl ?_
    refine R_iload 41 dX6_leastCostly_39 rfl rfl ?_
    refine R_if_lt 44 51 dX6_leastCostly_41 rfl (by decide) (fun c1 => ?_) (fun c1 => ?_)
    ·
      refine R_iload 53 dX6_leastCostly_51 rfl rfl ?_
      refine R_istore 55 dX6_leastCostly_53 rfl rfl (by decide) (loc' := [(0, .ref 0), (1, .int x), (2, .int w), (4, .int la), (5, .int be), (6, .int z1_), (7, .int v), (8, .int z1_)]) rfl ?_
      refine R_iload 57 dX6_leastCostly_55 rfl rfl ?_
      refine R_istore 59 dX6_leastCostly_57 rfl rfl (by decide) (loc' := [(0, .ref 0), (1, .int x), (2, .int w), (4, .int la), (5, .int v), (6, .int z1_), (7, .int v), (8, .int z1_)]) rfl ?_
      refine R_iinc 62 dX6_leastCostly_59 rfl rfl (v := (v + 1)) rfl rfl (by decide) (loc' := [(0, .ref 0), (1, .int x), (2, .int w), (4, .int la), (5, .int v), (6, .int z1_), (7, .int (v + 1)), (8, .int z1_)]) rfl ?_
      refine R_goto 9 dX6_leastCostly_62 (by decide) ?_
      subst hz1_
      refine R_pick [0, 1, 2, 3, 4, 5, 6] rfl ?_
      have e : stX6_leastCostly n x w a m cf ca be le v = ((sX6_playInMind ((sX2_change ((sX6_think n cf ca).1) w v).2) ((sX6_think n cf ca).2.1) ((sX6_think n cf ca).2.2) x true).2.1, (sX6_playInMind ((sX2_change ((sX6_think n cf ca).1) w v).2) ((sX6_think n cf ca).2.1) ((sX6_think n cf ca).2.2) x true).2.2.1, (sX6_playInMind ((sX2_change ((sX6_think n cf ca).1) w v).2) ((sX6_think n cf ca).2.1) ((sX6_think n cf ca).2.2) x true).2.2.2, v, ((sX6_playInMind ((sX2_change ((sX6_think n cf ca).1) w v).2) ((sX6_think n cf ca).2.1) ((sX6_think n cf ca).2.2) x true).1), v + 1) := by unfold stX6_leastCostly; rw [if_pos c1]
      have e2 : (itX6_leastCostly n x w (j + 1) a m cf ca be le v) = (itX6_leastCostly n x w j (a + 1) ((sX6_playInMind ((sX2_change ((sX6_think n cf ca).1) w v).2) ((sX6_think n cf ca).2.1) ((sX6_think n cf ca).2.2) x true).2.1) ((sX6_playInMind ((sX2_change ((sX6_think n cf ca).1) w v).2) ((sX6_think n cf ca).2.1) ((sX6_think n cf ca).2.2) x true).2.2.1) ((sX6_playInMind ((sX2_change ((sX6_think n cf ca).1) w v).2) ((sX6_think n cf ca).2.1) ((sX6_think n cf ca).2.2) x true).2.2.2) v ((sX6_playInMind ((sX2_change ((sX6_think n cf ca).1) w v).2) ((sX6_think n cf ca).2.1) ((sX6_think n cf ca).2.2) x true).1) (v + 1)) := itX6_leastCostly_n e
      rw [e2]; exact ih (a + 1) ((sX6_playInMind ((sX2_change ((sX6_think n cf ca).1) w v).2) ((sX6_think n cf ca).2.1) ((sX6_think n cf ca).2.2) x true).2.1) ((sX6_playInMind ((sX2_change ((sX6_think n cf ca).1) w v).2) ((sX6_think n cf ca).2.1) ((sX6_think n cf ca).2.2) x true).2.2.1) ((sX6_playInMind ((sX2_change ((sX6_think n cf ca).1) w v).2) ((sX6_think n cf ca).2.1) ((sX6_think n cf ca).2.2) x true).2.2.2) v ((sX6_playInMind ((sX2_change ((sX6_think n cf ca).1) w v).2) ((sX6_think n cf ca).2.1) ((sX6_think n cf ca).2.2) x true).1) (v + 1) ⟨by rw [i_s1 (by omega)]; omega, hj.2⟩
    ·
      refine R_iload 46 dX6_leastCostly_44 rfl rfl ?_
      refine R_iload 48 dX6_leastCostly_46 rfl rfl ?_
      refine R_icmp_ge 51 59 dX6_leastCostly_48 rfl (by decide) (fun c2 => ?_) (fun c2 => ?_)
      ·
        refine R_iinc 62 dX6_leastCostly_59 rfl rfl (v := (v + 1)) rfl rfl (by decide) (loc' := [(0, .ref 0), (1, .int x), (2, .int w), (4, .int la), (5, .int be), (6, .int le), (7, .int (v + 1)), (8, .int z1_)]) rfl ?_
        refine R_goto 9 dX6_leastCostly_62 (by decide) ?_
        subst hz1_
        refine R_pick [0, 1, 2, 3, 4, 5, 6] rfl ?_
        have e : stX6_leastCostly n x w a m cf ca be le v = ((sX6_playInMind ((sX2_change ((sX6_think n cf ca).1) w v).2) ((sX6_think n cf ca).2.1) ((sX6_think n cf ca).2.2) x true).2.1, (sX6_playInMind ((sX2_change ((sX6_think n cf ca).1) w v).2) ((sX6_think n cf ca).2.1) ((sX6_think n cf ca).2.2) x true).2.2.1, (sX6_playInMind ((sX2_change ((sX6_think n cf ca).1) w v).2) ((sX6_think n cf ca).2.1) ((sX6_think n cf ca).2.2) x true).2.2.2, be, le, v + 1) := by unfold stX6_leastCostly; rw [if_neg c1, if_pos c2]
        have e2 : (itX6_leastCostly n x w (j + 1) a m cf ca be le v) = (itX6_leastCostly n x w j (a + 1) ((sX6_playInMind ((sX2_change ((sX6_think n cf ca).1) w v).2) ((sX6_think n cf ca).2.1) ((sX6_think n cf ca).2.2) x true).2.1) ((sX6_playInMind ((sX2_change ((sX6_think n cf ca).1) w v).2) ((sX6_think n cf ca).2.1) ((sX6_think n cf ca).2.2) x true).2.2.1) ((sX6_playInMind ((sX2_change ((sX6_think n cf ca).1) w v).2) ((sX6_think n cf ca).2.1) ((sX6_think n cf ca).2.2) x true).2.2.2) be le (v + 1)) := itX6_leastCostly_n e
        rw [e2]; exact ih (a + 1) ((sX6_playInMind ((sX2_change ((sX6_think n cf ca).1) w v).2) ((sX6_think n cf ca).2.1) ((sX6_think n cf ca).2.2) x true).2.1) ((sX6_playInMind ((sX2_change ((sX6_think n cf ca).1) w v).2) ((sX6_think n cf ca).2.1) ((sX6_think n cf ca).2.2) x true).2.2.1) ((sX6_playInMind ((sX2_change ((sX6_think n cf ca).1) w v).2) ((sX6_think n cf ca).2.1) ((sX6_think n cf ca).2.2) x true).2.2.2) be le (v + 1) ⟨by rw [i_s1 (by omega)]; omega, hj.2⟩
      ·
        refine R_iload 53 dX6_leastCostly_51 rfl rfl ?_
        refine R_istore 55 dX6_leastCostly_53 rfl rfl (by decide) (loc' := [(0, .ref 0), (1, .int x), (2, .int w), (4, .int la), (5, .int be), (6, .int z1_), (7, .int v), (8, .int z1_)]) rfl ?_
        refine R_iload 57 dX6_leastCostly_55 rfl rfl ?_
        refine R_istore 59 dX6_leastCostly_57 rfl rfl (by decide) (loc' := [(0, .ref 0), (1, .int x), (2, .int w), (4, .int la), (5, .int v), (6, .int z1_), (7, .int v), (8, .int z1_)]) rfl ?_
        refine R_iinc 62 dX6_leastCostly_59 rfl rfl (v := (v + 1)) rfl rfl (by decide) (loc' := [(0, .ref 0), (1, .int x), (2, .int w), (4, .int la), (5, .int v), (6, .int z1_), (7, .int (v + 1)), (8, .int z1_)]) rfl ?_
        refine R_goto 9 dX6_leastCostly_62 (by decide) ?_
        subst hz1_
        refine R_pick [0, 1, 2, 3, 4, 5, 6] rfl ?_
        have e : stX6_leastCostly n x w a m cf ca be le v = ((sX6_playInMind ((sX2_change ((sX6_think n cf ca).1) w v).2) ((sX6_think n cf ca).2.1) ((sX6_think n cf ca).2.2) x true).2.1, (sX6_playInMind ((sX2_change ((sX6_think n cf ca).1) w v).2) ((sX6_think n cf ca).2.1) ((sX6_think n cf ca).2.2) x true).2.2.1, (sX6_playInMind ((sX2_change ((sX6_think n cf ca).1) w v).2) ((sX6_think n cf ca).2.1) ((sX6_think n cf ca).2.2) x true).2.2.2, v, ((sX6_playInMind ((sX2_change ((sX6_think n cf ca).1) w v).2) ((sX6_think n cf ca).2.1) ((sX6_think n cf ca).2.2) x true).1), v + 1) := by unfold stX6_leastCostly; rw [if_neg c1, if_neg c2]
        have e2 : (itX6_leastCostly n x w (j + 1) a m cf ca be le v) = (itX6_leastCostly n x w j (a + 1) ((sX6_playInMind ((sX2_change ((sX6_think n cf ca).1) w v).2) ((sX6_think n cf ca).2.1) ((sX6_think n cf ca).2.2) x true).2.1) ((sX6_playInMind ((sX2_change ((sX6_think n cf ca).1) w v).2) ((sX6_think n cf ca).2.1) ((sX6_think n cf ca).2.2) x true).2.2.1) ((sX6_playInMind ((sX2_change ((sX6_think n cf ca).1) w v).2) ((sX6_think n cf ca).2.1) ((sX6_think n cf ca).2.2) x true).2.2.2) v ((sX6_playInMind ((sX2_change ((sX6_think n cf ca).1) w v).2) ((sX6_think n cf ca).2.1) ((sX6_think n cf ca).2.2) x true).1) (v + 1)) := itX6_leastCostly_n e
        rw [e2]; exact ih (a + 1) ((sX6_playInMind ((sX2_change ((sX6_think n cf ca).1) w v).2) ((sX6_think n cf ca).2.1) ((sX6_think n cf ca).2.2) x true).2.1) ((sX6_playInMind ((sX2_change ((sX6_think n cf ca).1) w v).2) ((sX6_think n cf ca).2.1) ((sX6_think n cf ca).2.2) x true).2.2.1) ((sX6_playInMind ((sX2_change ((sX6_think n cf ca).1) w v).2) ((sX6_think n cf ca).2.1) ((sX6_think n cf ca).2.2) x true).2.2.2) v ((sX6_playInMind ((sX2_change ((sX6_think n cf ca).1) w v).2) ((sX6_think n cf ca).2.1) ((sX6_think n cf ca).2.2) x true).1) (v + 1) ⟨by rw [i_s1 (by omega)]; omega, hj.2⟩
def sX6_leastCostly (n : zP) (m : zP) (cf : Nat → Int32) (ca : Nat → Nat → Int32) (x : Int32) (w : Int32) (fi : Int32) (la : Int32) : Int32 × zP × (Nat → Int32) × (Nat → Nat → Int32) := ((itX6_leastCostly n x w (la.toInt + 1 - fi.toInt).toNat 0 m cf ca fi (-1) fi).1, (itX6_leastCostly n x w (la.toInt + 1 - fi.toInt).toNat 0 m cf ca fi (-1) fi).2.1, (itX6_leastCostly n x w (la.toInt + 1 - fi.toInt).toNat 0 m cf ca fi (-1) fi).2.2.1, (itX6_leastCostly n x w (la.toInt + 1 - fi.toInt).toNat 0 m cf ca fi (-1) fi).2.2.2)
set_option maxRecDepth 20000 in
theorem eX6_leastCostly_0 {G : zG} {h2 : List va_E} {n m i : zP} {cf : Nat → Int32} {ca : Nat → Nat → Int32} {x w fi la : Int32} (hl : fi.toInt ≤ la.toInt + 1 ∧ la.toInt < 2 ^ 29) : EvF G mX6_leastCostly [.ref 0, .int x, .int w, .int fi, .int la] (hC G n m i cf ca, h2) (some (.int ((sX6_leastCostly n m cf ca x w fi la).1))) (hC G n ((sX6_leastCostly n m cf ca x w fi la).2.1) i ((sX6_leastCostly n m cf ca x w fi la).2.2.1) ((sX6_leastCostly n m cf ca x w fi la).2.2.2), h2) := by
  generalize hs : (sX6_leastCostly n m cf ca x w fi la) = zz
  refine EvF.of pnX6 rfl ?_
  refine R_iload_n 1 dX6_leastCostly_0 rfl rfl ?_
  refine R_istore 3 dX6_leastCostly_1 rfl rfl (by decide) (loc' := [(0, .ref 0), (1, .int x), (2, .int w), (3, .int fi), (4, .int la), (5, .int fi)]) rfl ?_
  refine R_iconst 4 dX6_leastCostly_3 rfl (v := (-1)) (by decide) ?_
  refine R_istore 6 dX6_leastCostly_4 rfl rfl (by decide) (loc' := [(0, .ref 0), (1, .int x), (2, .int w), (3, .int fi), (4, .int la), (5, .int fi), (6, .int (-1))]) rfl ?_
  refine R_iload_n 7 dX6_leastCostly_6 rfl rfl ?_
  refine R_istore 9 dX6_leastCostly_7 rfl rfl (by decide) (loc' := [(0, .ref 0), (1, .int x), (2, .int w), (3, .int fi), (4, .int la), (5, .int fi), (6, .int (-1)), (7, .int fi)]) rfl ?_
  refine R_pick [0, 1, 2, 4, 5, 6, 7] rfl ?_
  have e : zz = ((itX6_leastCostly n x w (la.toInt + 1 - fi.toInt).toNat 0 m cf ca fi (-1) fi).1, (itX6_leastCostly n x w (la.toInt + 1 - fi.toInt).toNat 0 m cf ca fi (-1) fi).2.1, (itX6_leastCostly n x w (la.toInt + 1 - fi.toInt).toNat 0 m cf ca fi (-1) fi).2.2.1, (itX6_leastCostly n x w (la.toInt + 1 - fi.toInt).toNat 0 m cf ca fi (-1) fi).2.2.2) := by rw [← hs]; unfold sX6_leastCostly; rfl
  rw [pr1 e, pr1 (pr2 e), pr1 (pr2 (pr2 e)), pr2 (pr2 (pr2 e))]; exact lpX6_leastCostly ((la.toInt + 1 - fi.toInt).toNat) 0 m cf ca fi (-1) fi ⟨by omega, hl.2⟩
