theorem tS {ar : Nat → Nat → Int32} {a n : Nat} (h : tOk ar n) (ha : a < n) (hn : n ≤ 40) : ar 14 (nI a).toNatClampNeg = 115 → 0 ≤ (ar 16 (6 * nI a).toNatClampNeg).toInt := by
  rw [s6e rfl (by omega), nI_clamp (by omega), nI_clamp (by omega)]
  exact (h a ha).1
theorem co_next {f : Nat → Int32} {ar : Nat → Nat → Int32} {a j n : Nat} (hj : a + (j + 1) = n ∧ n ≤ 40 ∧ f 19 = nI n ∧ mOk f ar ∧ tZ f ∧ tOk ar n) : a + 1 + j = n ∧ n ≤ 40 ∧ (sX7_comes f ar (nI a)).2.1 19 = nI n ∧ mOk (sX7_comes f ar (nI a)).2.1 (sX7_comes f ar (nI a)).2.2 ∧ tZ (sX7_comes f ar (nI a)).2.1 ∧ tOk (sX7_comes f ar (nI a)).2.2 n := by
  obtain ⟨h1, h2, h3, h4, h5, h6⟩ := hj
  obtain ⟨⟨k1, k2⟩, k3, k4⟩ := co_ok (c := a) (by omega) h4 h5 (h6 a (by omega)).2
  refine ⟨by omega, h2, (k3 19 (by omega) (by omega)).trans h3, k1, k2, ?_⟩
  unfold tOk
  rw [k4 14 (by omega) (by omega), k4 16 (by omega) (by omega)]
  exact h6
def pI (j : Nat) (f : Nat → Int32) (ar : Nat → Nat → Int32) (gd : Int32) : Prop := ∃ r m : Nat, f 18 = nI r ∧ f 19 = nI m ∧ (0 ≤ (f 17).toInt ∧ (f 17).toInt ≤ 96) ∧ r ≤ 110 ∧ 4 * m ≤ r ∧ (¬ gd = 0 → r = stS (tT f ar) m) ∧ (gd = 0 → 1 ≤ j) ∧ (¬ gd = 0 → 300 ≤ r + j) ∧ okS (tT f ar) ar m ∧ mOk f ar ∧ tZ f
theorem pI_0 {f : Nat → Int32} {ar : Nat → Nat → Int32} {gd : Int32} (h : pI 0 f ar gd) : False := by
  obtain ⟨r, m, -, -, -, hr, -, -, h0, h1, -⟩ := h
  by_cases c : gd = 0
  · have := h0 c; omega
  · have := h1 c; omega
theorem pI_n {j : Nat} {f : Nat → Int32} {ar : Nat → Nat → Int32} {gd : Int32} (h : pI (j + 1) f ar gd) (c1 : ¬ gd = 0) (c2 : f 18 < f 17 ∨ f 19 = 0) : pI j (upd (sX7_statement f ar).2.1 19 ((sX7_statement f ar).2.1 19 + b2i (decide ((sX7_statement f ar).1 = true)))) (sX7_statement f ar).2.2 (b2i (sX7_statement f ar).1) := by
  obtain ⟨r, m, h18, h19, h17, hr, h4, hs, -, hg, hok, hk, hz⟩ := h
  have hs := hs c1
  have hg := hg c1
  have hr95 : r ≤ 95 := by
    rcases c2 with c2 | c2
    · rw [Int32.lt_iff_toInt_lt, h18, nI_toInt (by omega)] at c2
      omega
    · rw [h19] at c2
      have := congrArg Int32.toInt c2
      rw [nI_toInt (by omega), show (0 : Int32).toInt = 0 by decide] at this
      have hm : m = 0 := by omega
      subst hm
      rw [hs]
      exact Nat.zero_le _
  rw [dec_b]
  by_cases hb : hdP (tT f ar r)
  · obtain ⟨s1, s2, s3, s4, s5, s6, s7⟩ := st_sp (ar := ar) h18 (by omega) h19 (by omega) hb
    have hl := fitL_le (tT f ar) (shE (tT f ar r)) (r + 1)
    have h37 := shE_len (tT f ar r)
    have e17 : (sX7_statement f ar).2.1 17 = f 17 := by rw [s2]; rfl
    have e19 : (sX7_statement f ar).2.1 19 = nI m := by rw [s2]; exact h19
    have e8 : (sX7_statement f ar).2.1 8 = f 8 := by rw [s2]; rfl
    have e11 : (sX7_statement f ar).2.1 11 = f 11 := by rw [s2]; rfl
    have hT : tT (upd (sX7_statement f ar).2.1 19 ((sX7_statement f ar).2.1 19 + b2i (sX7_statement f ar).1)) (sX7_statement f ar).2.2 = tT f ar := tT_eq e17 (s3 13 (by decide) (by decide) (by decide))
    have hk' : mOk (upd (sX7_statement f ar).2.1 19 ((sX7_statement f ar).2.1 19 + b2i (sX7_statement f ar).1)) (sX7_statement f ar).2.2 := by
      unfold mOk at hk ⊢
      rw [show upd (sX7_statement f ar).2.1 19 ((sX7_statement f ar).2.1 19 + b2i (sX7_statement f ar).1) 8 = f 8 from e8, show upd (sX7_statement f ar).2.1 19 ((sX7_statement f ar).2.1 19 + b2i (sX7_statement f ar).1) 11 = f 11 from e11, s3 1 (by decide) (by decide) (by decide), s3 5 (by decide) (by decide) (by decide), s3 6 (by decide) (by decide) (by decide)]
      exact hk
    have hz' : tZ (upd (sX7_statement f ar).2.1 19 ((sX7_statement f ar).2.1 19 + b2i (sX7_statement f ar).1)) := by
      unfold tZ at hz ⊢
      rw [show upd (sX7_statement f ar).2.1 19 ((sX7_statement f ar).2.1 19 + b2i (sX7_statement f ar).1) 8 = f 8 from e8, show upd (sX7_statement f ar).2.1 19 ((sX7_statement f ar).2.1 19 + b2i (sX7_statement f ar).1) 11 = f 11 from e11]
      exact hz
    have h18' : upd (sX7_statement f ar).2.1 19 ((sX7_statement f ar).2.1 19 + b2i (sX7_statement f ar).1) 18 = nI (r + 1 + fitL (shE (tT f ar r)) (tT f ar) (r + 1)) := by
      show (sX7_statement f ar).2.1 18 = _
      rw [s2]
      rfl
    by_cases c : fitL (shE (tT f ar r)) (tT f ar) (r + 1) = (shE (tT f ar r)).length
    · have hx : (sX7_statement f ar).1 = true := by rw [s1, decide_eq_true c]
      refine ⟨r + 1 + (shE (tT f ar r)).length, m + 1, by rw [h18', c], ?_, h17 |> fun h => (show 0 ≤ ((sX7_statement f ar).2.1 17).toInt ∧ ((sX7_statement f ar).2.1 17).toInt ≤ 96 by rw [e17]; exact h), by omega, by omega, fun _ => ?_, fun h => ?_, fun _ => by omega, ?_, hk', hz'⟩
      · show (sX7_statement f ar).2.1 19 + b2i (sX7_statement f ar).1 = _
        rw [e19, hx, ← nI_1]
        rfl
      · rw [hT]
        show _ = stS (tT f ar) m + 1 + (shE (tT f ar (stS (tT f ar) m))).length
        rw [← hs]
      · rw [hx] at h
        exact absurd h (by decide)
      · rw [hT]
        exact okS_n hok s4 s5 s6 hs hb c (s7 c)
    · have hx : (sX7_statement f ar).1 = false := by rw [s1, decide_eq_false c]
      refine ⟨r + 1 + fitL (shE (tT f ar r)) (tT f ar) (r + 1), m, h18', ?_, (show 0 ≤ ((sX7_statement f ar).2.1 17).toInt ∧ ((sX7_statement f ar).2.1 17).toInt ≤ 96 by rw [e17]; exact h17), by omega, by omega, fun h => ?_, fun _ => by omega, fun h => ?_, ?_, hk', hz'⟩
      · show (sX7_statement f ar).2.1 19 + b2i (sX7_statement f ar).1 = _
        rw [e19, hx, show b2i false = 0 from rfl, Int32.add_zero]
      · rw [hx] at h
        exact absurd rfl h
      · rw [hx] at h
        exact absurd rfl h
      · rw [hT]
        refine okS_k hok (fun k hk => ?_) (fun k hk => ?_) (fun i hi => s6 i (Or.inl hi))
        · rw [s4, upd_ne (by omega)]
        · rw [s5, upd_ne (by omega)]
  · rw [st_no (by rw [nx_T h18 (by omega)]; exact hb)]
    refine ⟨r, m, h18, ?_, h17, hr, h4, fun h => absurd rfl h, fun _ => by omega, fun h => absurd rfl h, ?_, hk, hz⟩
    · show f 19 + b2i false = _
      rw [show b2i false = 0 from rfl, Int32.add_zero]
      exact h19
    · show okS (tT (upd f 19 (f 19 + b2i false)) ar) ar m
      rw [show tT (upd f 19 (f 19 + b2i false)) ar = tT f ar from tT_eq rfl rfl]
      exact hok
theorem p2_init {j : Nat} {f : Nat → Int32} {ar : Nat → Nat → Int32} {gd : Int32} (h : pI j f ar gd) : 0 + ((sX7_passesAll_1k (upd f 17 0) ar).1 19).toNatClampNeg = (f 19).toNatClampNeg ∧ (f 19).toNatClampNeg ≤ 40 ∧ (sX7_passesAll_1k (upd f 17 0) ar).1 19 = nI (f 19).toNatClampNeg ∧ mOk (sX7_passesAll_1k (upd f 17 0) ar).1 (sX7_passesAll_1k (upd f 17 0) ar).2 ∧ tZ (sX7_passesAll_1k (upd f 17 0) ar).1 ∧ tOk (sX7_passesAll_1k (upd f 17 0) ar).2 (f 19).toNatClampNeg := by
  obtain ⟨r, m, h18, h19, h17, hr, h4, hs, -, hg, hok, hk, hz⟩ := h
  have e : (f 19).toNatClampNeg = m := by rw [h19, nI_clamp (by omega)]
  rw [e]
  refine ⟨(Nat.zero_add _).trans e, by omega, h19, hk, hz, okS_t hok⟩
theorem pI_i {f : Nat → Int32} {ar : Nat → Nat → Int32} (h17 : 0 ≤ (f 17).toInt ∧ (f 17).toInt ≤ 96) (hk : mOk f ar) (hz : tZ f) : pI 300 (upd (upd f 18 0) 19 0) ar 1 := ⟨0, 0, rfl, rfl, h17, by omega, by omega, fun _ => rfl, fun h => absurd h (by decide), fun _ => by omega, fun c hc => absurd hc (Nat.not_lt_zero c), hk, hz⟩
def exX7_parlour2  (a : Nat) (f : Nat → Int32) (ar : Nat → Nat → Int32) : Int32 × (Nat → Int32) × (Nat → Nat → Int32) := (f 19, f, ar)
def stX7_parlour2  (a : Nat) (f : Nat → Int32) (ar : Nat → Nat → Int32) : (Int32 × (Nat → Int32) × (Nat → Nat → Int32)) ⊕ ((Nat → Int32) × (Nat → Nat → Int32)) := if ((sX7_comes f ar (nI a)).1) = true then .inr (((sX7_comes f ar (nI a)).2.1), ((sX7_comes f ar (nI a)).2.2)) else .inl ((-2000) - (((sX7_passesAll_1p ((sX7_comes f ar (nI a)).2.1) ((sX7_comes f ar (nI a)).2.2)).2) 15 (nI a).toNatClampNeg), ((sX7_passesAll_1p ((sX7_comes f ar (nI a)).2.1) ((sX7_comes f ar (nI a)).2.2)).1), ((sX7_passesAll_1p ((sX7_comes f ar (nI a)).2.1) ((sX7_comes f ar (nI a)).2.2)).2))
def itX7_parlour2  (j a : Nat) (f : Nat → Int32) (ar : Nat → Nat → Int32) : Int32 × (Nat → Int32) × (Nat → Nat → Int32) := itG (fun a (s : (Nat → Int32) × (Nat → Nat → Int32)) => exX7_parlour2  a s.1 s.2) (fun a (s : (Nat → Int32) × (Nat → Nat → Int32)) => stX7_parlour2  a s.1 s.2) j a (f, ar)
theorem itX7_parlour2_r  {j a : Nat} {f : Nat → Int32} {ar : Nat → Nat → Int32} {r : Int32 × (Nat → Int32) × (Nat → Nat → Int32)} (e : stX7_parlour2  a f ar = .inl r) : (itX7_parlour2  (j + 1) a f ar) = r := itG_r (st := fun a (s : (Nat → Int32) × (Nat → Nat → Int32)) => stX7_parlour2  a s.1 s.2) (s := (f, ar)) e
theorem itX7_parlour2_n  {j a : Nat} {f : Nat → Int32} {ar : Nat → Nat → Int32} {s0_ : Nat → Int32} {s1_ : Nat → Nat → Int32} (e : stX7_parlour2  a f ar = .inr (s0_, s1_)) : (itX7_parlour2  (j + 1) a f ar) = (itX7_parlour2  j (a + 1) s0_ s1_) := itG_n (st := fun a (s : (Nat → Int32) × (Nat → Nat → Int32)) => stX7_parlour2  a s.1 s.2) (s := (f, ar)) (s1 := (s0_, s1_)) e
set_option maxRecDepth 20000 in
theorem lpX7_parlour2 {G : zG} {h1 : List va_E} {n : Nat} : ∀ (j a : Nat) (f : Nat → Int32) (ar : Nat → Nat → Int32), (a + j = n ∧ n ≤ 40 ∧ f 19 = nI n ∧ mOk f ar ∧ tZ f ∧ tOk ar n) → R G mX7_parlour 86 [(0, .ref 100), (2, .int (nI a))] [] (h1, hM G f ar) (fun r0 h0 => r0 = some (.int ((itX7_parlour2  j a f ar).1)) ∧ h0 = (h1, hM G ((itX7_parlour2  j a f ar).2.1) ((itX7_parlour2  j a f ar).2.2))) := by
  intro j
  induction j with
  | zero =>
    intro a f ar hj
    have hc : f 19 ≤ nI a := by rw [hj.2.2.1]; exact nI_le (by omega) (by omega)
    refine R_iload_n 87 dX7_parlour_86 rfl rfl ?_
    refine R_aload_n 88 dX7_parlour_87 rfl rfl ?_
    refine R_get 91 dX7_parlour_88 rfl fX7_114 rfl (v := .int (f 19)) rfl ?_
    refine R_icmp_ge 94 128 dX7_parlour_91 rfl (by decide) (fun _ => ?_) (fun c => absurd hc c)
    refine R_aload_n 129 dX7_parlour_128 rfl rfl ?_
    refine R_get 132 dX7_parlour_129 rfl fX7_114 rfl (v := .int (f 19)) rfl ?_
    refine R_ireturn dX7_parlour_132 rfl rfl ?_
    have e : (itX7_parlour2  0 a f ar) = (f 19, f, ar) := rfl
    rw [e]; exact ⟨rfl, rfl⟩
  | succ j ih =>
    intro a f ar hj
    have hc : ¬ f 19 ≤ nI a := by rw [hj.2.2.1]; exact nI_ge (by omega) (by omega)
    refine R_iload_n 87 dX7_parlour_86 rfl rfl ?_
    refine R_aload_n 88 dX7_parlour_87 rfl rfl ?_
    refine R_get 91 dX7_parlour_88 rfl fX7_114 rfl (v := .int (f 19)) rfl ?_
    refine R_icmp_ge 94 128 dX7_parlour_91 rfl (by decide) (fun c => absurd c hc) (fun _ => ?_)
    refine R_aload_n 95 dX7_parlour_94 rfl rfl ?_
    refine R_iload_n 96 dX7_parlour_95 rfl rfl ?_
    refine R_callVi 99 (eX7_comes (by rw [nI_toInt (by omega)]; omega) hj.2.2.2.1 (tS hj.2.2.2.2.2 (by omega) hj.2.1)) dX7_parlour_96 rfl kX7_comes lX7_153 rfl rfl rfl rfl rfl rfl rfl ?_
    generalize hz1_ : (sX7_comes f ar (nI a)).2.1 = z1_
    generalize hz2_ : (sX7_comes f ar (nI a)).2.2 = z2_
    refine R_ifb_eq 102 105 dX7_parlour_99 rfl (by decide) (fun c1 => ?_) (fun c1 => ?_)
    ·
      refine R_aload_n 106 dX7_parlour_105 rfl rfl ?_
      refine R_iconst 107 dX7_parlour_106 rfl (v := 1) (by decide) ?_
      refine R_iconst 108 dX7_parlour_107 rfl (v := 0) (by decide) ?_
      refine R_callVv 111 eX7_passesAll_1p dX7_parlour_108 rfl kX7_passesAll lX7_149 rfl rfl rfl rfl rfl rfl rfl ?_
      generalize hz3_ : (sX7_passesAll_1p z1_ z2_).1 = z3_
      generalize hz4_ : (sX7_passesAll_1p z1_ z2_).2 = z4_
      refine R_sipush 114 dX7_parlour_111 rfl (v := (-2000)) (by decide) ?_
      refine R_aload_n 115 dX7_parlour_114 rfl rfl ?_
      refine R_get 118 dX7_parlour_115 rfl fX7_40 rfl (v := .ref 111) rfl ?_
      refine R_iload_n 119 dX7_parlour_118 rfl rfl ?_
      refine R_iald 120 dX7_parlour_119 rfl rfl rfl (vp_in_nI (by omega) (by omega)) ?_
      refine R_isub 121 dX7_parlour_120 rfl ?_
      refine R_ireturn dX7_parlour_121 rfl rfl ?_
      subst hz1_ hz2_ hz3_ hz4_
      have e : stX7_parlour2  a f ar = .inl ((-2000) - (((sX7_passesAll_1p ((sX7_comes f ar (nI a)).2.1) ((sX7_comes f ar (nI a)).2.2)).2) 15 (nI a).toNatClampNeg), ((sX7_passesAll_1p ((sX7_comes f ar (nI a)).2.1) ((sX7_comes f ar (nI a)).2.2)).1), ((sX7_passesAll_1p ((sX7_comes f ar (nI a)).2.1) ((sX7_comes f ar (nI a)).2.2)).2)) := by unfold stX7_parlour2; rw [if_neg c1]
      have e2 : (itX7_parlour2  (j + 1) a f ar) = ((-2000) - (((sX7_passesAll_1p ((sX7_comes f ar (nI a)).2.1) ((sX7_comes f ar (nI a)).2.2)).2) 15 (nI a).toNatClampNeg), ((sX7_passesAll_1p ((sX7_comes f ar (nI a)).2.1) ((sX7_comes f ar (nI a)).2.2)).1), ((sX7_passesAll_1p ((sX7_comes f ar (nI a)).2.1) ((sX7_comes f ar (nI a)).2.2)).2)) := itX7_parlour2_r e
      rw [e2]; exact ⟨rfl, rfl⟩
    ·
      refine R_goto 122 dX7_parlour_102 (by decide) ?_
      refine R_iinc 125 dX7_parlour_122 rfl rfl (v := (nI (a + 1))) (nI_1 a) rfl (by decide) (loc' := [(0, .ref 100), (2, .int (nI (a + 1)))]) rfl ?_
      refine R_goto 86 dX7_parlour_125 (by decide) ?_
      subst hz1_ hz2_
      refine R_pick [0, 1] rfl ?_
      have e : stX7_parlour2  a f ar = .inr (((sX7_comes f ar (nI a)).2.1), ((sX7_comes f ar (nI a)).2.2)) := by unfold stX7_parlour2; rw [if_pos c1]
      have e2 : (itX7_parlour2  (j + 1) a f ar) = (itX7_parlour2  j (a + 1) ((sX7_comes f ar (nI a)).2.1) ((sX7_comes f ar (nI a)).2.2)) := itX7_parlour2_n e
      rw [e2]; exact ih (a + 1) ((sX7_comes f ar (nI a)).2.1) ((sX7_comes f ar (nI a)).2.2) (co_next hj)
def exX7_parlour  (a : Nat) (f : Nat → Int32) (ar : Nat → Nat → Int32) (gd : Int32) : Int32 × (Nat → Int32) × (Nat → Nat → Int32) := (0, f, ar)
def stX7_parlour  (a : Nat) (f : Nat → Int32) (ar : Nat → Nat → Int32) (gd : Int32) : (Int32 × (Nat → Int32) × (Nat → Nat → Int32)) ⊕ ((Nat → Int32) × (Nat → Nat → Int32) × Int32) := if gd = 0 then .inl ((-1000) - (f 18), (upd f 17 0), ar) else if (f 18) < (f 17) then .inr ((upd ((sX7_statement f ar).2.1) 19 ((((sX7_statement f ar).2.1) 19) + (b2i (decide (((sX7_statement f ar).1) = true))))), ((sX7_statement f ar).2.2), b2i ((sX7_statement f ar).1)) else if (f 19) = 0 then .inr ((upd ((sX7_statement f ar).2.1) 19 ((((sX7_statement f ar).2.1) 19) + (b2i (decide (((sX7_statement f ar).1) = true))))), ((sX7_statement f ar).2.2), b2i ((sX7_statement f ar).1)) else .inl ((itX7_parlour2  (((sX7_passesAll_1k (upd f 17 0) ar).1) 19).toNatClampNeg 0 ((sX7_passesAll_1k (upd f 17 0) ar).1) ((sX7_passesAll_1k (upd f 17 0) ar).2)).1, (itX7_parlour2  (((sX7_passesAll_1k (upd f 17 0) ar).1) 19).toNatClampNeg 0 ((sX7_passesAll_1k (upd f 17 0) ar).1) ((sX7_passesAll_1k (upd f 17 0) ar).2)).2.1, (itX7_parlour2  (((sX7_passesAll_1k (upd f 17 0) ar).1) 19).toNatClampNeg 0 ((sX7_passesAll_1k (upd f 17 0) ar).1) ((sX7_passesAll_1k (upd f 17 0) ar).2)).2.2)
def itX7_parlour  (j a : Nat) (f : Nat → Int32) (ar : Nat → Nat → Int32) (gd : Int32) : Int32 × (Nat → Int32) × (Nat → Nat → Int32) := itG (fun a (s : (Nat → Int32) × (Nat → Nat → Int32) × Int32) => exX7_parlour  a s.1 s.2.1 s.2.2) (fun a (s : (Nat → Int32) × (Nat → Nat → Int32) × Int32) => stX7_parlour  a s.1 s.2.1 s.2.2) j a (f, ar, gd)
theorem itX7_parlour_r  {j a : Nat} {f : Nat → Int32} {ar : Nat → Nat → Int32} {gd : Int32} {r : Int32 × (Nat → Int32) × (Nat → Nat → Int32)} (e : stX7_parlour  a f ar gd = .inl r) : (itX7_parlour  (j + 1) a f ar gd) = r := itG_r (st := fun a (s : (Nat → Int32) × (Nat → Nat → Int32) × Int32) => stX7_parlour  a s.1 s.2.1 s.2.2) (s := (f, ar, gd)) e
theorem itX7_parlour_n  {j a : Nat} {f : Nat → Int32} {ar : Nat → Nat → Int32} {gd : Int32} {s0_ : Nat → Int32} {s1_ : Nat → Nat → Int32} {s2_ : Int32} (e : stX7_parlour  a f ar gd = .inr (s0_, s1_, s2_)) : (itX7_parlour  (j + 1) a f ar gd) = (itX7_parlour  j (a + 1) s0_ s1_ s2_) := itG_n (st := fun a (s : (Nat → Int32) × (Nat → Nat → Int32) × Int32) => stX7_parlour  a s.1 s.2.1 s.2.2) (s := (f, ar, gd)) (s1 := (s0_, s1_, s2_)) e
set_option maxRecDepth 20000 in
theorem lpX7_parlour {G : zG} {h1 : List va_E}  : ∀ (j a : Nat) (f : Nat → Int32) (ar : Nat → Nat → Int32) (gd : Int32), (pI j f ar gd) → R G mX7_parlour 12 [(0, .ref 100), (1, .int gd)] [] (h1, hM G f ar) (fun r0 h0 => r0 = some (.int ((itX7_parlour  j a f ar gd).1)) ∧ h0 = (h1, hM G ((itX7_parlour  j a f ar gd).2.1) ((itX7_parlour  j a f ar gd).2.2))) := by
  intro j
  induction j with
  | zero =>
    intro a f ar gd hj
    exact (pI_0 hj).elim
  | succ j ih =>
    intro a f ar gd hj
    obtain ⟨r, m, h18, h19, h96, hr, h4, -⟩ := id hj
    refine R_iload_n 13 dX7_parlour_12 rfl rfl ?_
    refine R_if_eq 16 60 dX7_parlour_13 rfl (by decide) (fun c1 => ?_) (fun c1 => ?_)
    ·
      refine R_aload_n 61 dX7_parlour_60 rfl rfl ?_
      refine R_iconst 62 dX7_parlour_61 rfl (v := 0) (by decide) ?_
      refine R_put 65 dX7_parlour_62 rfl wX7_73 rfl rfl rfl rfl (h2 := (h1, hM G (upd f 17 0) ar)) mp_17 ?_
      refine R_iload_n 66 dX7_parlour_65 rfl rfl ?_
      refine R_if_ne 69 78 dX7_parlour_66 rfl (by decide) (fun c => absurd c1 c) (fun _ => ?_)
      refine R_sipush 72 dX7_parlour_69 rfl (v := (-1000)) (by decide) ?_
      refine R_aload_n 73 dX7_parlour_72 rfl rfl ?_
      refine R_get 76 dX7_parlour_73 rfl fX7_80 rfl (v := .int (f 18)) rfl ?_
      refine R_isub 77 dX7_parlour_76 rfl ?_
      refine R_ireturn dX7_parlour_77 rfl rfl ?_
      have e : stX7_parlour  a f ar gd = .inl ((-1000) - (f 18), (upd f 17 0), ar) := by unfold stX7_parlour; rw [if_pos c1]
      have e2 : (itX7_parlour  (j + 1) a f ar gd) = ((-1000) - (f 18), (upd f 17 0), ar) := itX7_parlour_r e
      rw [e2]; exact ⟨rfl, rfl⟩
    ·
      refine R_aload_n 17 dX7_parlour_16 rfl rfl ?_
      refine R_get 20 dX7_parlour_17 rfl fX7_80 rfl (v := .int (f 18)) rfl ?_
      refine R_aload_n 21 dX7_parlour_20 rfl rfl ?_
      refine R_get 24 dX7_parlour_21 rfl fX7_73 rfl (v := .int (f 17)) rfl ?_
      refine R_icmp_lt 27 34 dX7_parlour_24 rfl (by decide) (fun c2 => ?_) (fun c2 => ?_)
      ·
        refine R_aload_n 35 dX7_parlour_34 rfl rfl ?_
        refine R_callVi 38 (eX7_statement h18 (by omega) h96.2 h19 (by omega)) dX7_parlour_35 rfl kX7_statement lX7_145 rfl rfl rfl rfl rfl rfl rfl ?_
        generalize hz1_ : (sX7_statement f ar).2.1 = z1_
        generalize hz2_ : (sX7_statement f ar).2.2 = z2_
        refine R_istore_n 39 dX7_parlour_38 rfl rfl (by decide) (loc' := [(0, .ref 100), (1, .int (b2i ((sX7_statement f ar).1)))]) rfl ?_
        refine R_aload_n 40 dX7_parlour_39 rfl rfl ?_
        refine R_dup 41 dX7_parlour_40 rfl rfl ?_
        refine R_get 44 dX7_parlour_41 rfl fX7_114 rfl (v := .int (z1_ 19)) rfl ?_
        refine R_iload_n 45 dX7_parlour_44 rfl rfl ?_
        refine R_cut 53 [(0, .ref 100), (1, .int (b2i ((sX7_statement f ar).1)))] (.int (b2i (decide (((sX7_statement f ar).1) = true))) :: [.int (z1_ 19), .ref 100]) (h1, hM G z1_ z2_) ?_ (fun kj => ?_)
        ·
          refine R_iadd 54 dX7_parlour_53 rfl ?_
          refine R_nm2 (fun z3_ hz3_ => ?_)
          refine R_put 57 dX7_parlour_54 rfl wX7_114 rfl rfl rfl rfl (h2 := (h1, hM G (upd z1_ 19 z3_) z2_)) mp_19 ?_
          refine R_goto 12 dX7_parlour_57 (by decide) ?_
          subst hz1_ hz2_ hz3_
          refine R_pick [0, 1] rfl ?_
          have e : stX7_parlour  a f ar gd = .inr ((upd ((sX7_statement f ar).2.1) 19 ((((sX7_statement f ar).2.1) 19) + (b2i (decide (((sX7_statement f ar).1) = true))))), ((sX7_statement f ar).2.2), b2i ((sX7_statement f ar).1)) := by unfold stX7_parlour; rw [if_neg c1, if_pos c2]
          have e2 : (itX7_parlour  (j + 1) a f ar gd) = (itX7_parlour  j (a + 1) (upd ((sX7_statement f ar).2.1) 19 ((((sX7_statement f ar).2.1) 19) + (b2i (decide (((sX7_statement f ar).1) = true))))) ((sX7_statement f ar).2.2) (b2i ((sX7_statement f ar).1))) := itX7_parlour_n e
          rw [e2]; exact ih (a + 1) (upd ((sX7_statement f ar).2.1) 19 ((((sX7_statement f ar).2.1) 19) + (b2i (decide (((sX7_statement f ar).1) = true))))) ((sX7_statement f ar).2.2) (b2i ((sX7_statement f ar).1)) (by first | exact pI_n hj c1 (Or.inl c2) | exact pI_n hj c1 (Or.inr (by assumption)))
        refine R_ifb_eq 48 52 dX7_parlour_45 rfl (by decide) (fun c3 => ?_) (fun c3 => ?_)
        · refine R_iconst 53 dX7_parlour_52 rfl (v := 0) (by decide) ?_
          rw [b2i_n c3] at kj; exact kj
        · refine R_iconst 49 dX7_parlour_48 rfl (v := 1) (by decide) ?_
          refine R_goto 53 dX7_parlour_49 (by decide) ?_
          rw [b2i_p c3] at kj; exact kj
      ·
        refine R_aload_n 28 dX7_parlour_27 rfl rfl ?_
        refine R_get 31 dX7_parlour_28 rfl fX7_114 rfl (v := .int (f 19)) rfl ?_
        refine R_if_ne 34 60 dX7_parlour_31 rfl (by decide) (fun c4 => ?_) (fun c4 => ?_)
        ·
          refine R_aload_n 61 dX7_parlour_60 rfl rfl ?_
          refine R_iconst 62 dX7_parlour_61 rfl (v := 0) (by decide) ?_
          refine R_put 65 dX7_parlour_62 rfl wX7_73 rfl rfl rfl rfl (h2 := (h1, hM G (upd f 17 0) ar)) mp_17 ?_
          refine R_iload_n 66 dX7_parlour_65 rfl rfl ?_
          refine R_if_ne 69 78 dX7_parlour_66 rfl (by decide) (fun _ => ?_) (fun c => absurd c c1)
          refine R_aload_n 79 dX7_parlour_78 rfl rfl ?_
          refine R_iconst 80 dX7_parlour_79 rfl (v := 1) (by decide) ?_
          refine R_iconst 81 dX7_parlour_80 rfl (v := 1) (by decide) ?_
          refine R_callVv 84 eX7_passesAll_1k dX7_parlour_81 rfl kX7_passesAll lX7_149 rfl rfl rfl rfl rfl rfl rfl ?_
          generalize hz4_ : (sX7_passesAll_1k (upd f 17 0) ar).1 = z4_
          generalize hz5_ : (sX7_passesAll_1k (upd f 17 0) ar).2 = z5_
          refine R_iconst 85 dX7_parlour_84 rfl (v := 0) (by decide) ?_
          refine R_istore_n 86 dX7_parlour_85 rfl rfl (by decide) (loc' := [(0, .ref 100), (1, .int gd), (2, .int 0)]) rfl ?_
          subst hz4_ hz5_
          have e : stX7_parlour  a f ar gd = .inl ((itX7_parlour2  (((sX7_passesAll_1k (upd f 17 0) ar).1) 19).toNatClampNeg 0 ((sX7_passesAll_1k (upd f 17 0) ar).1) ((sX7_passesAll_1k (upd f 17 0) ar).2)).1, (itX7_parlour2  (((sX7_passesAll_1k (upd f 17 0) ar).1) 19).toNatClampNeg 0 ((sX7_passesAll_1k (upd f 17 0) ar).1) ((sX7_passesAll_1k (upd f 17 0) ar).2)).2.1, (itX7_parlour2  (((sX7_passesAll_1k (upd f 17 0) ar).1) 19).toNatClampNeg 0 ((sX7_passesAll_1k (upd f 17 0) ar).1) ((sX7_passesAll_1k (upd f 17 0) ar).2)).2.2) := by unfold stX7_parlour; rw [if_neg c1, if_neg c2, if_neg c4]
          have e2 : (itX7_parlour  (j + 1) a f ar gd) = ((itX7_parlour2  (((sX7_passesAll_1k (upd f 17 0) ar).1) 19).toNatClampNeg 0 ((sX7_passesAll_1k (upd f 17 0) ar).1) ((sX7_passesAll_1k (upd f 17 0) ar).2)).1, (itX7_parlour2  (((sX7_passesAll_1k (upd f 17 0) ar).1) 19).toNatClampNeg 0 ((sX7_passesAll_1k (upd f 17 0) ar).1) ((sX7_passesAll_1k (upd f 17 0) ar).2)).2.1, (itX7_parlour2  (((sX7_passesAll_1k (upd f 17 0) ar).1) 19).toNatClampNeg 0 ((sX7_passesAll_1k (upd f 17 0) ar).1) ((sX7_passesAll_1k (upd f 17 0) ar).2)).2.2) := itX7_parlour_r e
          rw [pr1 e2, pr1 (pr2 e2), pr2 (pr2 e2)]
          refine R_pick [0, 2] rfl ?_
          exact lpX7_parlour2 ((((sX7_passesAll_1k (upd f 17 0) ar).1) 19).toNatClampNeg) 0 ((sX7_passesAll_1k (upd f 17 0) ar).1) ((sX7_passesAll_1k (upd f 17 0) ar).2) (p2_init hj)
        ·
          refine R_aload_n 35 dX7_parlour_34 rfl rfl ?_
          refine R_callVi 38 (eX7_statement h18 (by omega) h96.2 h19 (by omega)) dX7_parlour_35 rfl kX7_statement lX7_145 rfl rfl rfl rfl rfl rfl rfl ?_
          generalize hz6_ : (sX7_statement f ar).2.1 = z6_
          generalize hz7_ : (sX7_statement f ar).2.2 = z7_
          refine R_istore_n 39 dX7_parlour_38 rfl rfl (by decide) (loc' := [(0, .ref 100), (1, .int (b2i ((sX7_statement f ar).1)))]) rfl ?_
          refine R_aload_n 40 dX7_parlour_39 rfl rfl ?_
          refine R_dup 41 dX7_parlour_40 rfl rfl ?_
          refine R_get 44 dX7_parlour_41 rfl fX7_114 rfl (v := .int (z6_ 19)) rfl ?_
          refine R_iload_n 45 dX7_parlour_44 rfl rfl ?_
          refine R_cut 53 [(0, .ref 100), (1, .int (b2i ((sX7_statement f ar).1)))] (.int (b2i (decide (((sX7_statement f ar).1) = true))) :: [.int (z6_ 19), .ref 100]) (h1, hM G z6_ z7_) ?_ (fun kj => ?_)
          ·
            refine R_iadd 54 dX7_parlour_53 rfl ?_
            refine R_nm2 (fun z8_ hz8_ => ?_)
            refine R_put 57 dX7_parlour_54 rfl wX7_114 rfl rfl rfl rfl (h2 := (h1, hM G (upd z6_ 19 z8_) z7_)) mp_19 ?_
            refine R_goto 12 dX7_parlour_57 (by decide) ?_
            subst hz6_ hz7_ hz8_
            refine R_pick [0, 1] rfl ?_
            have e : stX7_parlour  a f ar gd = .inr ((upd ((sX7_statement f ar).2.1) 19 ((((sX7_statement f ar).2.1) 19) + (b2i (decide (((sX7_statement f ar).1) = true))))), ((sX7_statement f ar).2.2), b2i ((sX7_statement f ar).1)) := by unfold stX7_parlour; rw [if_neg c1, if_neg c2, if_pos c4]
            have e2 : (itX7_parlour  (j + 1) a f ar gd) = (itX7_parlour  j (a + 1) (upd ((sX7_statement f ar).2.1) 19 ((((sX7_statement f ar).2.1) 19) + (b2i (decide (((sX7_statement f ar).1) = true))))) ((sX7_statement f ar).2.2) (b2i ((sX7_statement f ar).1))) := itX7_parlour_n e
            rw [e2]; exact ih (a + 1) (upd ((sX7_statement f ar).2.1) 19 ((((sX7_statement f ar).2.1) 19) + (b2i (decide (((sX7_statement f ar).1) = true))))) ((sX7_statement f ar).2.2) (b2i ((sX7_statement f ar).1)) (by first | exact pI_n hj c1 (Or.inl c2) | exact pI_n hj c1 (Or.inr (by assumption)))
          refine R_ifb_eq 48 52 dX7_parlour_45 rfl (by decide) (fun c5 => ?_) (fun c5 => ?_)
          · refine R_iconst 53 dX7_parlour_52 rfl (v := 0) (by decide) ?_
            rw [b2i_n c5] at kj; exact kj
          · refine R_iconst 49 dX7_parlour_48 rfl (v := 1) (by decide) ?_
            refine R_goto 53 dX7_parlour_49 (by decide) ?_
            rw [b2i_p c5] at kj; exact kj
def sX7_parlour (f : Nat → Int32) (ar : Nat → Nat → Int32) : Int32 × (Nat → Int32) × (Nat → Nat → Int32) := ((itX7_parlour  300 0 (upd (upd f 18 0) 19 0) ar 1).1, (itX7_parlour  300 0 (upd (upd f 18 0) 19 0) ar 1).2.1, (itX7_parlour  300 0 (upd (upd f 18 0) 19 0) ar 1).2.2)
set_option maxRecDepth 20000 in
theorem eX7_parlour {G : zG} {h1 : List va_E} {f : Nat → Int32} {ar : Nat → Nat → Int32} (h17 : 0 ≤ (f 17).toInt ∧ (f 17).toInt ≤ 96) (hk : mOk f ar) (hz : tZ f) : EvF G mX7_parlour [.ref 100] (h1, hM G f ar) (some (.int ((sX7_parlour f ar).1))) (h1, hM G ((sX7_parlour f ar).2.1) ((sX7_parlour f ar).2.2)) := by
  generalize hs : (sX7_parlour f ar) = zz
  refine EvF.of pnX7 rfl ?_
  refine R_aload_n 1 dX7_parlour_0 rfl rfl ?_
  refine R_iconst 2 dX7_parlour_1 rfl (v := 0) (by decide) ?_
  refine R_put 5 dX7_parlour_2 rfl wX7_80 rfl rfl rfl rfl (h2 := (h1, hM G (upd f 18 0) ar)) mp_18 ?_
  refine R_aload_n 6 dX7_parlour_5 rfl rfl ?_
  refine R_iconst 7 dX7_parlour_6 rfl (v := 0) (by decide) ?_
  refine R_put 10 dX7_parlour_7 rfl wX7_114 rfl rfl rfl rfl (h2 := (h1, hM G (upd (upd f 18 0) 19 0) ar)) mp_19 ?_
  refine R_iconst 11 dX7_parlour_10 rfl (v := 1) (by decide) ?_
  refine R_istore_n 12 dX7_parlour_11 rfl rfl (by decide) (loc' := [(0, .ref 100), (1, .int 1)]) rfl ?_
  refine R_pick [0, 1] rfl ?_
  have e : zz = ((itX7_parlour  300 0 (upd (upd f 18 0) 19 0) ar 1).1, (itX7_parlour  300 0 (upd (upd f 18 0) 19 0) ar 1).2.1, (itX7_parlour  300 0 (upd (upd f 18 0) 19 0) ar 1).2.2) := by rw [← hs]; unfold sX7_parlour; rfl
  rw [pr1 e, pr1 (pr2 e), pr2 (pr2 e)]; exact lpX7_parlour 300 0 (upd (upd f 18 0) 19 0) ar 1 (pI_i h17 hk hz)
